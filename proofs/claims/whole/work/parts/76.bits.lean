/-! bits counted; knotted: the class -/
def uu (w : Int64) : Nat := w.toBitVec.toNat
theorem uu_lt {w : Int64} : uu w < 18446744073709551616 := w.toBitVec.isLt
theorem uu_and {a b : Int64} : uu (a &&& b) = uu a &&& uu b := by unfold uu; rw [Int64.toBitVec_and, BitVec.toNat_and]
theorem uu_add {a b : Int64} (h : uu a + uu b < 18446744073709551616) : uu (a + b) = uu a + uu b := by
  unfold uu at *
  rw [Int64.toBitVec_add, BitVec.toNat_add]
  exact Nat.mod_eq_of_lt h
theorem uu_sub {a b : Int64} (h : uu b ≤ uu a) : uu (a - b) = uu a - uu b := by
  have h1 := @uu_lt a
  unfold uu at *
  rw [Int64.toBitVec_sub, BitVec.toNat_sub]
  omega
theorem uu_sh {x : Int64} {k : Nat} (hk : k < 61) : uu ((x.toUInt64 >>> ((Int32.ofInt (k : Int)).toInt64.toUInt64 &&& Int64.toUInt64 63)).toInt64) = uu x / 2 ^ k := by
  have ha : ∀ s, s < 61 → ((Int32.ofInt ((s : Nat) : Int)).toInt64.toUInt64 &&& Int64.toUInt64 63) = UInt64.ofNat s := by decide +kernel
  rw [ha k hk]
  have hb : ∀ s, s < 61 → ((UInt64.ofNat s).toBitVec % 64).toNat = s := by decide +kernel
  unfold uu
  rw [UInt64.toBitVec_toInt64, UInt64.toBitVec_shiftRight, BitVec.ushiftRight_eq', BitVec.toNat_ushiftRight, hb k hk, Nat.shiftRight_eq_div_pow]
  rfl
theorem uu_l2i {x : Int64} : op2 (· &&& ·) x.toInt32.toInt 127 = ((uu x % 128 : Nat) : Int) := by
  unfold op2 uu
  rw [Int32.ofInt_toInt]
  have e : (x.toInt32 &&& Int32.ofInt 127).toBitVec.toNat = x.toBitVec.toNat % 128 := by
    rw [Int32.toBitVec_and, BitVec.toNat_and, Int64.toBitVec_toInt32, BitVec.signExtend_eq_setWidth_of_le _ (by omega), BitVec.toNat_setWidth, show (Int32.ofInt 127).toBitVec.toNat = 2 ^ 7 - 1 by decide, Nat.and_two_pow_sub_one_eq_mod]
    omega
  rw [← Int32.toInt_toBitVec, BitVec.toInt_eq_toNat_of_lt (by rw [e]; omega), e]
theorem pop_n {n : Nat} (hn : n < 18446744073709551616) : dg n 8 ≤ 578721382704613384 ∧ dg n 8 + dg n 8 / 256 ≤ 1157442765409226768 ∧ (dg n 8 + dg n 8 / 256) + (dg n 8 + dg n 8 / 256) / 65536 ≤ 2314885530818453536 ∧ (((dg n 8 + dg n 8 / 256) + (dg n 8 + dg n 8 / 256) / 65536) + ((dg n 8 + dg n 8 / 256) + (dg n 8 + dg n 8 / 256) / 65536) / 4294967296) % 128 = bt n 64 := by
  have e8 : bt n 64 = bt n 8 + (bt (n / 256) 8 + (bt (n / 256 / 256) 8 + (bt (n / 256 / 256 / 256) 8 + (bt (n / 256 / 256 / 256 / 256) 8 + (bt (n / 256 / 256 / 256 / 256 / 256) 8 + (bt (n / 256 / 256 / 256 / 256 / 256 / 256) 8 + bt (n / 256 / 256 / 256 / 256 / 256 / 256 / 256) 8)))))) := by
    rw [bt_add (n := n) (a := 8) 56, bt_add (n := n / 2 ^ 8) (a := 8) 48, bt_add (n := n / 2 ^ 8 / 2 ^ 8) (a := 8) 40, bt_add (n := n / 2 ^ 8 / 2 ^ 8 / 2 ^ 8) (a := 8) 32, bt_add (n := n / 2 ^ 8 / 2 ^ 8 / 2 ^ 8 / 2 ^ 8) (a := 8) 24, bt_add (n := n / 2 ^ 8 / 2 ^ 8 / 2 ^ 8 / 2 ^ 8 / 2 ^ 8) (a := 8) 16, bt_add (n := n / 2 ^ 8 / 2 ^ 8 / 2 ^ 8 / 2 ^ 8 / 2 ^ 8 / 2 ^ 8) (a := 8) 8]
  have ed : dg n 8 = bt n 8 + 256 * (bt (n / 256) 8 + 256 * (bt (n / 256 / 256) 8 + 256 * (bt (n / 256 / 256 / 256) 8 + 256 * (bt (n / 256 / 256 / 256 / 256) 8 + 256 * (bt (n / 256 / 256 / 256 / 256 / 256) 8 + 256 * (bt (n / 256 / 256 / 256 / 256 / 256 / 256) 8 + 256 * bt (n / 256 / 256 / 256 / 256 / 256 / 256 / 256) 8)))))) := by
    simp only [dg, bt_mod, Nat.mul_zero, Nat.add_zero]
  have l0 := @bt_le n 8
  have l1 := @bt_le (n / 256) 8
  have l2 := @bt_le (n / 256 / 256) 8
  have l3 := @bt_le (n / 256 / 256 / 256) 8
  have l4 := @bt_le (n / 256 / 256 / 256 / 256) 8
  have l5 := @bt_le (n / 256 / 256 / 256 / 256 / 256) 8
  have l6 := @bt_le (n / 256 / 256 / 256 / 256 / 256 / 256) 8
  have l7 := @bt_le (n / 256 / 256 / 256 / 256 / 256 / 256 / 256) 8
  generalize dg n 8 = X at *
  generalize bt n 8 = c0 at *
  generalize bt (n / 256) 8 = c1 at *
  generalize bt (n / 256 / 256) 8 = c2 at *
  generalize bt (n / 256 / 256 / 256) 8 = c3 at *
  generalize bt (n / 256 / 256 / 256 / 256) 8 = c4 at *
  generalize bt (n / 256 / 256 / 256 / 256 / 256) 8 = c5 at *
  generalize bt (n / 256 / 256 / 256 / 256 / 256 / 256) 8 = c6 at *
  generalize bt (n / 256 / 256 / 256 / 256 / 256 / 256 / 256) 8 = c7 at *
  have s1 := pop_s1 l0 ed
  generalize X + X / 256 = Y at *
  have s2 := pop_s2 (by omega) (by omega) s1
  generalize Y + Y / 65536 = Z at *
  have s3 := pop_s3 (by omega) (by omega) (by omega) (by omega) (by omega) s2
  rw [s3, e8]
  refine ⟨by omega, by omega, by omega, by omega⟩
theorem bt_cnt {r : Int64} : ∀ k, bt (uu r) k = cnt (tb r) k := by
  intro k
  induction k with
  | zero => rfl
  | succ k ih =>
    show bt (uu r) k + (uu r / 2 ^ k) % 2 = cnt (tb r) k + (if tb r k then 1 else 0)
    rw [ih]
    have e : tb r k = decide (uu r / 2 ^ k % 2 = 1) := by unfold tb uu; rw [← BitVec.testBit_toNat, Nat.testBit_eq_decide_div_mod_eq]
    rw [e]
    by_cases c : uu r / 2 ^ k % 2 = 1
    · rw [c]; rfl
    · rw [if_neg (by simpa using c)]; omega
set_option maxRecDepth 8000 in
theorem j_bitCount {h : Hp} {r : Int64} : RN 117 0 [some (.inr (.inl r)), none] [] h 0 0 (fun v h2 => h2 = h ∧ v = some (.inl ((cnt (tb r) 64 : Nat) : Int))) := by
  have hm : mrec 117 = some nM117 := rfl
  refine r_lload_n hm rfl (k := ?_)
  refine r_lload_n hm rfl (k := ?_)
  refine r_iconst hm rfl (k := ?_)
  refine r_lushr hm rfl (k := ?_)
  refine r_ldc2 hm rfl (hd := rfl) (k := ?_)
  refine r_land hm rfl (k := ?_)
  refine r_lsub hm rfl (k := ?_)
  refine r_lstore_n hm rfl (k := ?_)
  refine r_lload_n hm rfl (k := ?_)
  refine r_ldc2 hm rfl (hd := rfl) (k := ?_)
  refine r_land hm rfl (k := ?_)
  refine r_lload_n hm rfl (k := ?_)
  refine r_iconst hm rfl (k := ?_)
  refine r_lushr hm rfl (k := ?_)
  refine r_ldc2 hm rfl (hd := rfl) (k := ?_)
  refine r_land hm rfl (k := ?_)
  refine r_ladd hm rfl (k := ?_)
  refine r_lstore_n hm rfl (k := ?_)
  refine r_lload_n hm rfl (k := ?_)
  refine r_lload_n hm rfl (k := ?_)
  refine r_iconst hm rfl (k := ?_)
  refine r_lushr hm rfl (k := ?_)
  refine r_ladd hm rfl (k := ?_)
  refine r_ldc2 hm rfl (hd := rfl) (k := ?_)
  refine r_land hm rfl (k := ?_)
  refine r_lstore_n hm rfl (k := ?_)
  refine r_lload_n hm rfl (k := ?_)
  refine r_lload_n hm rfl (k := ?_)
  refine r_bipush hm rfl (k := ?_)
  refine r_lushr hm rfl (k := ?_)
  refine r_ladd hm rfl (k := ?_)
  refine r_lstore_n hm rfl (k := ?_)
  refine r_lload_n hm rfl (k := ?_)
  refine r_lload_n hm rfl (k := ?_)
  refine r_bipush hm rfl (k := ?_)
  refine r_lushr hm rfl (k := ?_)
  refine r_ladd hm rfl (k := ?_)
  refine r_lstore_n hm rfl (k := ?_)
  refine r_lload_n hm rfl (k := ?_)
  refine r_lload_n hm rfl (k := ?_)
  refine r_bipush hm rfl (k := ?_)
  refine r_lushr hm rfl (k := ?_)
  refine r_ladd hm rfl (k := ?_)
  refine r_lstore_n hm rfl (k := ?_)
  refine r_lload_n hm rfl (k := ?_)
  refine r_l2i hm rfl (k := ?_)
  refine r_bipush hm rfl (k := ?_)
  refine r_iand hm rfl (k := ?_)
  refine r_ireturn hm rfl rfl (by rfl) (Nat.le_of_ble_eq_true rfl) (Nat.le_of_ble_eq_true rfl) ?_
  refine ⟨rfl, ?_⟩
  rw [uu_l2i, ← bt_cnt]
  have k0 : uu 6148914691236517205 = 85 * rp 8 := by decide +kernel
  have k1 : uu 3689348814741910323 = 51 * rp 8 := by decide +kernel
  have k2 : uu 1085102592571150095 = 15 * rp 8 := by decide +kernel
  generalize hA : r - ((r.toUInt64 >>> ((Int32.ofInt 1).toInt64.toUInt64 &&& Int64.toUInt64 63)).toInt64 &&& 6148914691236517205) = A
  have uA : uu A = pf1 (85 * rp 8) (uu r) := by
    have s : uu ((r.toUInt64 >>> ((Int32.ofInt 1).toInt64.toUInt64 &&& Int64.toUInt64 63)).toInt64 &&& 6148914691236517205) = (uu r / 2) &&& (85 * rp 8) := by rw [uu_and, k0]; exact congrArg (· &&& 85 * rp 8) (uu_sh (k := 1) (by omega))
    rw [← hA, uu_sub (by rw [s]; exact Nat.le_trans Nat.and_le_left (Nat.div_le_self _ _)), s]
    rfl
  generalize hB : (A &&& 3689348814741910323) + ((A.toUInt64 >>> ((Int32.ofInt 2).toInt64.toUInt64 &&& Int64.toUInt64 63)).toInt64 &&& 3689348814741910323) = B
  have uB : uu B = pf2 (51 * rp 8) (uu A) ∧ uu B ≤ 7378697629483820646 := by
    have s : uu ((A.toUInt64 >>> ((Int32.ofInt 2).toInt64.toUInt64 &&& Int64.toUInt64 63)).toInt64 &&& 3689348814741910323) = (uu A / 4) &&& (51 * rp 8) := by rw [uu_and, k1]; exact congrArg (· &&& 51 * rp 8) (uu_sh (k := 2) (by omega))
    have s2 : uu (A &&& 3689348814741910323) = uu A &&& (51 * rp 8) := by rw [uu_and, k1]
    have kk : 51 * rp 8 = 3689348814741910323 := by decide +kernel
    have b1 : uu A &&& (51 * rp 8) ≤ 51 * rp 8 := Nat.and_le_right
    have b2 : (uu A / 4) &&& (51 * rp 8) ≤ 51 * rp 8 := Nat.and_le_right
    have eB : uu B = (uu A &&& (51 * rp 8)) + ((uu A / 4) &&& (51 * rp 8)) := by
      rw [← hB, uu_add (by rw [s, s2]; omega), s, s2]
    exact ⟨eB, by omega⟩
  generalize hC : (B + (B.toUInt64 >>> ((Int32.ofInt 4).toInt64.toUInt64 &&& Int64.toUInt64 63)).toInt64) &&& 1085102592571150095 = C
  have uC : uu C = dg (uu r) 8 := by
    have s : uu ((B.toUInt64 >>> ((Int32.ofInt 4).toInt64.toUInt64 &&& Int64.toUInt64 63)).toInt64) = uu B / 16 := uu_sh (k := 4) (by omega)
    have p := (pG 8 (uu r) uu_lt).2
    rw [← hC, uu_and, k2, uu_add (by rw [s]; omega), s, ← p, uB.1, uA]
    rfl
  obtain ⟨q1, q2, q3, q4⟩ := pop_n (n := uu r) uu_lt
  rw [← uC] at q1 q2 q3 q4
  generalize hD : C + (C.toUInt64 >>> ((Int32.ofInt 8).toInt64.toUInt64 &&& Int64.toUInt64 63)).toInt64 = D
  have uD : uu D = uu C + uu C / 256 := by
    have s : uu ((C.toUInt64 >>> ((Int32.ofInt 8).toInt64.toUInt64 &&& Int64.toUInt64 63)).toInt64) = uu C / 256 := uu_sh (k := 8) (by omega)
    rw [← hD, uu_add (by rw [s]; omega), s]
  generalize hE : D + (D.toUInt64 >>> ((Int32.ofInt 16).toInt64.toUInt64 &&& Int64.toUInt64 63)).toInt64 = E9
  rw [← uD] at q2 q3 q4
  have uE : uu E9 = uu D + uu D / 65536 := by
    have s : uu ((D.toUInt64 >>> ((Int32.ofInt 16).toInt64.toUInt64 &&& Int64.toUInt64 63)).toInt64) = uu D / 65536 := uu_sh (k := 16) (by omega)
    rw [← hE, uu_add (by rw [s]; omega), s]
  rw [← uE] at q3 q4
  have uF : uu (E9 + (E9.toUInt64 >>> ((Int32.ofInt 32).toInt64.toUInt64 &&& Int64.toUInt64 63)).toInt64) = uu E9 + uu E9 / 4294967296 := by
    have s : uu ((E9.toUInt64 >>> ((Int32.ofInt 32).toInt64.toUInt64 &&& Int64.toUInt64 63)).toInt64) = uu E9 / 4294967296 := uu_sh (k := 32) (by omega)
    rw [uu_add (by rw [s]; omega), s]
  rw [uF, q4]
theorem tb_xor {a b : Int64} {v : Nat} : tb (a ^^^ b) v = (tb a v ^^ tb b v) := by unfold tb; rw [Int64.toBitVec_xor, BitVec.getLsbD_xor]
theorem tb_m1 {v : Nat} (hv : v < 64) : tb (-1) v = true := by
  have h : ∀ v, v < 64 → tb (-1) v = true := by decide +kernel
  exact h v hv
theorem cnt_congr {p q : Nat → Bool} : ∀ n, (∀ v, v < n → p v = q v) → cnt p n = cnt q n := by
  intro n
  induction n with
  | zero => intro _; rfl
  | succ n ih =>
    intro h
    show cnt p n + (if p n then 1 else 0) = cnt q n + (if q n then 1 else 0)
    rw [ih (fun v hv => h v (by omega)), h n (by omega)]
theorem rcN_sc {e : Nat → Nat → Bool} {src n v : Nat} : rcN e src (n + 1) v = true ↔ rcN e src n v = true ∨ ∃ s, s < 61 ∧ rcN e src n s = true ∧ e s v = true := by
  show (rcN e src n v || an (fun s => rcN e src n s && e s v) 0 61) = true ↔ _
  rw [Bool.or_eq_true, an_true]
  constructor
  · rintro (h | ⟨k, -, h1, h2⟩)
    · exact Or.inl h
    · rw [Bool.and_eq_true] at h2
      exact Or.inr ⟨k, by omega, h2.1, h2.2⟩
  · rintro (h | ⟨k, h1, h2, h3⟩)
    · exact Or.inl h
    · exact Or.inr ⟨k, Nat.zero_le _, by omega, by rw [h2, h3]; rfl⟩
theorem rcN_hd {e : Nat → Nat → Bool} {a s : Nat} (ha : a < 61) (hs : e a s = true) : ∀ n v, rcN e s n v = true → rcN e a (n + 1) v = true := by
  intro n
  induction n with
  | zero =>
    intro v hv
    have ev : v = s := of_decide_eq_true hv
    subst ev
    exact rcN_sc.mpr (Or.inr ⟨a, ha, decide_eq_true rfl, hs⟩)
  | succ n ih =>
    intro v hv
    rcases rcN_sc.mp hv with h | ⟨t, t1, t2, t3⟩
    · exact rcN_sc.mpr (Or.inl (ih v h))
    · exact rcN_sc.mpr (Or.inr ⟨t, t1, ih t t2, t3⟩)
theorem rcN_back {e : Nat → Nat → Bool} : ∀ n u v, u < 61 → v < 61 → rcN e u n v = true → rcN (fun a b => e b a) v n u = true := by
  intro n
  induction n with
  | zero =>
    intro u v _ _ hv
    have ev : v = u := of_decide_eq_true hv
    exact decide_eq_true ev.symm
  | succ n ih =>
    intro u v hu hv h
    rcases rcN_sc.mp h with h | ⟨t, t1, t2, t3⟩
    · exact rcN_sc.mpr (Or.inl (ih u v hu hv h))
    · exact rcN_hd hv t3 n u (ih u t hu t1 t2)
theorem rcN_sym {e : Nat → Nat → Bool} {n u v : Nat} (hu : u < 61) (hv : v < 61) : rcN (fun a b => e b a) v n u = rcN e u n v := by
  cases h : rcN e u n v
  · cases h2 : rcN (fun a b => e b a) v n u
    · rfl
    · rw [rcN_back (e := fun a b => e b a) n v u hv hu h2] at h; cases h
  · exact rcN_back n u v hu hv h
theorem rcN_big {e : Nat → Nat → Bool} (he : ∀ s v, 61 ≤ v → e s v = false) {src : Nat} (hs : src < 61) : ∀ n v, 61 ≤ v → rcN e src n v = false := by
  intro n
  induction n with
  | zero => intro v hv; exact decide_eq_false (by omega)
  | succ n ih =>
    intro v hv
    cases h : rcN e src (n + 1) v
    · rfl
    · rcases rcN_sc.mp h with h | ⟨t, t1, t2, t3⟩
      · rw [ih v hv] at h; cases h
      · rw [he t v hv] at t3; cases t3
theorem dsN_rc {e : Nat → Nat → Bool} {a b : Nat} : 0 ≤ dsN e a b 62 0 ↔ rcN e a 61 b = true := by
  rcases dv_c (e := e) (src := a) (s := 61) (v := b) with ⟨h1, h2⟩ | ⟨q, h1, h2, h3, h4⟩
  · have h1 : dsN e a b 62 0 = -1 := h1
    rw [h1, h2]; simp
  · have h1 : dsN e a b 62 0 = (q : Int) := h1
    rw [h1, rcN_le h3 h2]; simp
theorem edg_big2 {x : Tx} (hok : okTx x) {u v : Nat} (hu : 61 ≤ u) : edg x u v = false := by
  unfold edg
  rw [an_false]
  intro i _ hi
  rw [an_false]
  intro k _ hk
  unfold edk
  have h := nSec_lt hok (i := i) (by omega)
  have h60 := hok.1
  exact decide_eq_false (fun z => by have z1 := z.2.1; omega)
def kn2 (e : Nat → Nat → Bool) (src v : Nat) : Bool := (rcN e src 61 v && rcN (fun a b => e b a) src 61 v) && !decide (v = src)
theorem kn2_cnt {x : Tx} (hok : okTx x) {o : Nat} (ho : o < 61) : cnt (kn2 (edg x) o) 64 = cnt (knP x o) 61 := by
  have hb : ∀ v, 61 ≤ v → kn2 (edg x) o v = false := fun v hv => by
    unfold kn2
    rw [rcN_big (fun s v hv => edg_big hok hv) ho 61 v hv]; rfl
  rw [cnt_f (hb 63 (by omega)), cnt_f (hb 62 (by omega)), cnt_f (hb 61 (by omega))]
  apply cnt_congr
  intro v hv
  unfold kn2 knP
  rw [show rcN (fun a b => edg x b a) o 61 v = rcN (edg x) v 61 o from rcN_sym hv ho]
  apply Bool.eq_iff_iff.mpr
  rw [decide_eq_true_iff, dsN_rc, dsN_rc, Bool.and_eq_true, Bool.and_eq_true]
  constructor
  · rintro ⟨⟨h1, h2⟩, h3⟩
    exact ⟨h1, by simpa using h3, h2⟩
  · rintro ⟨h1, h2, h3⟩
    exact ⟨⟨h1, h3⟩, by simpa using h2⟩
set_option maxRecDepth 8000 in
theorem c_countKnots {L : Nat} {h : Hp} {src : Nat} {e : Nat → Nat → Bool} (g : GG L h) (hs : src < 61) (heb : ∀ s v, 61 ≤ v → e s v = false) (heb2 : ∀ s v, 61 ≤ s → e s v = false) (he : ∀ s v, s < 61 → v < 64 → tb (h.2.2.2 345 s) v = e s v) (he2 : ∀ u v, v < 61 → u < 64 → tb (h.2.2.2 346 v) u = e u v) : RN 115 0 [some (.inr (.inr (some 344))), some (.inl ((src : Int) - 1)), none, none] [] h 0 0 (fun v h2 => h2 = h ∧ v = some (.inl ((cnt (kn2 e src) 64 : Nat) : Int))) := by
  have hm : mrec 115 = some nM115 := rfl
  refine r_lconst hm rfl (k := ?_)
  refine r_iload_n hm rfl (k := ?_)
  refine r_iconst hm rfl (k := ?_)
  refine r_iadd hm rfl (hr := (by omega)) (k := ?_)
  refine r_lshl hm rfl (k := ?_)
  rw [show (src : Int) - 1 + 1 = (src : Int) by omega]
  show RN 115 5 _ [.inr (.inl (one9 src))] _ _ _ _
  refine r_lstore_n hm rfl (k := ?_)
  refine r_aload_n hm rfl (k := ?_)
  refine r_lload_n hm rfl (k := ?_)
  refine r_aload_n hm rfl (k := ?_)
  refine r_getR (hm := hm) (hf := rfl) (hd := rfl) (hs := (by first | assumption | exact (g.1 _).trans rfl)) (hv := (by first | exact g.2 _ _ _ rfl)) (k := ?_)
  refine r_callv (j2 := 116) hm rfl rfl rfl rfl rfl rfl (by first | assumption | exact (g.1 _).trans rfl) (Nat.le_of_ble_eq_true rfl) (Nat.le_of_ble_eq_true rfl) rfl ⟨Nat.le_of_ble_eq_true rfl, Nat.le_of_ble_eq_true rfl, Nat.le_of_ble_eq_true rfl, Nat.le_of_ble_eq_true rfl, Nat.le_of_ble_eq_true rfl⟩ rfl (c_allReached (src := src) (e := e) g ((g.1 _).trans rfl) hs (fun v hv => tb_one hs hv) (fun s v hv => heb s v (by omega)) he) (fun v9 h9 p9 => ?_)
  obtain ⟨e1, f, e2, ef⟩ := p9
  subst e2
  subst e1
  change RN 115 15 _ _ _ 0 0 _
  dsimp only [Option.toList, List.cons_append, List.nil_append]
  refine r_aload_n hm rfl (k := ?_)
  refine r_lload_n hm rfl (k := ?_)
  refine r_aload_n hm rfl (k := ?_)
  refine r_getR (hm := hm) (hf := rfl) (hd := rfl) (hs := (by first | assumption | exact (g.1 _).trans rfl)) (hv := (by first | exact g.2 _ _ _ rfl)) (k := ?_)
  refine r_callv (j2 := 116) hm rfl rfl rfl rfl rfl rfl (by first | assumption | exact (g.1 _).trans rfl) (Nat.le_of_ble_eq_true rfl) (Nat.le_of_ble_eq_true rfl) rfl ⟨Nat.le_of_ble_eq_true rfl, Nat.le_of_ble_eq_true rfl, Nat.le_of_ble_eq_true rfl, Nat.le_of_ble_eq_true rfl, Nat.le_of_ble_eq_true rfl⟩ rfl (c_allReached (src := src) (e := fun a b => e b a) g ((g.1 _).trans rfl) hs (fun v hv => tb_one hs hv) (fun s v hv => heb2 v s (by omega)) (fun s v hs hv => he2 v s hs hv)) (fun v9 h9 p9 => ?_)
  obtain ⟨e1, f2, e2, ef2⟩ := p9
  subst e2
  subst e1
  change RN 115 24 _ _ _ 0 0 _
  dsimp only [Option.toList, List.cons_append, List.nil_append]
  refine r_land hm rfl (k := ?_)
  refine r_lload_n hm rfl (k := ?_)
  refine r_ldc2 hm rfl (hd := rfl) (k := ?_)
  refine r_lxor hm rfl (k := ?_)
  refine r_land hm rfl (k := ?_)
  refine r_calls (j2 := 117) hm rfl rfl rfl rfl rfl rfl (Nat.le_of_ble_eq_true rfl) (Nat.le_of_ble_eq_true rfl) rfl ⟨Nat.le_of_ble_eq_true rfl, Nat.le_of_ble_eq_true rfl, Nat.le_of_ble_eq_true rfl, Nat.le_of_ble_eq_true rfl, Nat.le_of_ble_eq_true rfl⟩ rfl (j_bitCount) (fun v9 h9 p9 => ?_)
  obtain ⟨e1, e2⟩ := p9
  subst e2
  replace e1 := e1.symm
  subst e1
  change RN 115 34 _ _ _ 0 0 _
  dsimp only [Option.toList, List.cons_append, List.nil_append]
  refine r_ireturn hm rfl rfl (by rfl) (Nat.le_of_ble_eq_true rfl) (Nat.le_of_ble_eq_true rfl) ?_
  refine ⟨rfl, ?_⟩
  rw [cnt_congr (q := kn2 e src) 64 (fun v hv => by rw [tb_and, tb_and, tb_xor, ef v hv, ef2 v hv, tb_one hs hv, tb_m1 hv, Bool.xor_true]; rfl)]
set_option maxRecDepth 8000 in
theorem c_knotted {L : Nat} {h : Hp} {S : St} (I : InvC L h S) (ok : okS S) {i : Int} : RN 114 0 [some (.inr (.inr (some (28)))), some (.inl i)] [] h 0 0 (fun v h2 => InvC L h2 S ∧ FxC h h2 ∧ v = some (.inl (aKnot S i))) := by
  have hm : mrec 114 = some nM114 := rfl
  obtain ⟨g, C, hR, hV, hK, hG, hSt, hL, hB, hFl⟩ := id I
  have hok := ok.1
  have ht : isT 29 := Or.inl rfl
  obtain ⟨T1, T2, T3, T4, T5, T6, T7⟩ := g.tx ht
  obtain ⟨I0, I1, I2, I3, I4, J0, J1, J2, F0, F1, F2, F3, F4, P0, P1, P2⟩ := hR.use g ht
  obtain ⟨R1, R2, R3, R4, R5, R6, R7⟩ := id hR
  have n60 := hok.1
  have g1 := g
  refine r_aload_n hm rfl (k := ?_)
  refine r_getR (hm := hm) (hf := rfl) (hd := rfl) (hs := (by first | assumption | exact (g1.1 _).trans rfl | exact I1 _ (by omega) | exact I2 _ (by omega) | exact I3 _ (by omega) | exact I4 _ (by omega))) (hv := (by first | assumption | exact g1.2 _ _ _ rfl | exact nQ)) (k := ?_)
  refine r_iload_n hm rfl (k := ?_)
  refine r_callv (j2 := 22) hm rfl rfl rfl rfl rfl rfl (by first | assumption | exact (g1.1 _).trans rfl | exact I1 _ (by omega) | exact I2 _ (by omega) | exact I3 _ (by omega) | exact I4 _ (by omega)) (Nat.le_of_ble_eq_true rfl) (Nat.le_of_ble_eq_true rfl) rfl ⟨Nat.le_of_ble_eq_true rfl, Nat.le_of_ble_eq_true rfl, Nat.le_of_ble_eq_true rfl, Nat.le_of_ble_eq_true rfl, Nat.le_of_ble_eq_true rfl⟩ rfl (c_has g ht hR) (fun v9 h9 p9 => ?_)
  obtain ⟨e1, e2⟩ := p9
  subst e2
  replace e1 := e1.symm
  subst e1
  obtain ⟨b9, eb9, hb9⟩ := ite01 (p := 0 ≤ i ∧ i < (S.1.1 : Int))
  rw [eb9]
  change RN 114 8 _ _ _ 0 0 _
  dsimp only [Option.toList, List.cons_append, List.nil_append]
  refine r_if_ne (t := 15) hm rfl rfl (fun c8 => ?_) (fun c8 => ?_)
  · obtain ⟨q, rfl⟩ := Int.eq_ofNat_of_zero_le (show 0 ≤ i by omega)
    refine r_aload_n hm rfl (k := ?_)
    refine r_getR (hm := hm) (hf := rfl) (hd := rfl) (hs := (by first | assumption | exact (g1.1 _).trans rfl | exact I1 _ (by omega) | exact I2 _ (by omega) | exact I3 _ (by omega) | exact I4 _ (by omega))) (hv := (by first | assumption | exact g1.2 _ _ _ rfl | exact nQ)) (k := ?_)
    refine r_aload_n hm rfl (k := ?_)
    refine r_getR (hm := hm) (hf := rfl) (hd := rfl) (hs := (by first | assumption | exact (g1.1 _).trans rfl | exact I1 _ (by omega) | exact I2 _ (by omega) | exact I3 _ (by omega) | exact I4 _ (by omega))) (hv := (by first | assumption | exact g1.2 _ _ _ rfl | exact nQ)) (k := ?_)
    refine r_aload_n hm rfl (k := ?_)
    refine r_callv (j2 := 32) hm rfl rfl rfl rfl rfl rfl (by first | assumption | exact (g1.1 _).trans rfl | exact I1 _ (by omega) | exact I2 _ (by omega) | exact I3 _ (by omega) | exact I4 _ (by omega)) (Nat.le_of_ble_eq_true rfl) (Nat.le_of_ble_eq_true rfl) rfl ⟨Nat.le_of_ble_eq_true rfl, Nat.le_of_ble_eq_true rfl, Nat.le_of_ble_eq_true rfl, Nat.le_of_ble_eq_true rfl, Nat.le_of_ble_eq_true rfl⟩ rfl (c_freshNumbers I ok) (fun v9 hN p9 => ?_)
    obtain ⟨SN, nN, e1⟩ := p9
    subst e1
    replace g1 := SN.gg g
    have IN : InvC L hN S := I.sm SN (fun a k z => by unfold regN at z; unfold idle; omega)
    have fN : FxC h hN := FxC.sm SN (fun a k z => by unfold regN at z; omega)
    have qJ := c_join g1 IN.2.2.1 hok nN
    change RN 114 27 _ _ _ 0 0 _
    dsimp only [Option.toList, List.cons_append, List.nil_append]
    refine r_callv (j2 := 109) hm rfl rfl rfl rfl rfl rfl (by first | assumption | exact (g1.1 _).trans rfl | exact I1 _ (by omega) | exact I2 _ (by omega) | exact I3 _ (by omega) | exact I4 _ (by omega)) (Nat.le_of_ble_eq_true rfl) (Nat.le_of_ble_eq_true rfl) rfl ⟨Nat.le_of_ble_eq_true rfl, Nat.le_of_ble_eq_true rfl, Nat.le_of_ble_eq_true rfl, Nat.le_of_ble_eq_true rfl, Nat.le_of_ble_eq_true rfl⟩ rfl (qJ) (fun v9 hJ p9 => ?_)
    obtain ⟨SJ, eX, eY, e1⟩ := p9
    subst e1
    replace g1 := SJ.gg g1
    have IJ := IN.sl SJ
    obtain ⟨s1, s2⟩ := secN_eq hok (i := q) (by omega)
    have nQ := (congrFun (congrFun SJ.2.1 276) q).trans (nN q (by omega)).1
    have qF := c_countKnots (src := secN S.1 q) (e := edg S.1) g1 s2 (fun s v hv => edg_big hok hv) (fun s v hv => edg_big2 hok hv) eX eY
    rw [show (secN S.1 q : Int) - 1 = nSec S.1 q by omega] at qF
    change RN 114 30 _ _ _ 0 0 _
    dsimp only [Option.toList, List.nil_append]
    refine r_aload_n hm rfl (k := ?_)
    refine r_getR (hm := hm) (hf := rfl) (hd := rfl) (hs := (by first | assumption | exact (g1.1 _).trans rfl | exact I1 _ (by omega) | exact I2 _ (by omega) | exact I3 _ (by omega) | exact I4 _ (by omega))) (hv := (by first | assumption | exact g1.2 _ _ _ rfl | exact nQ)) (k := ?_)
    refine r_aload_n hm rfl (k := ?_)
    refine r_getR (hm := hm) (hf := rfl) (hd := rfl) (hs := (by first | assumption | exact (g1.1 _).trans rfl | exact I1 _ (by omega) | exact I2 _ (by omega) | exact I3 _ (by omega) | exact I4 _ (by omega))) (hv := (by first | assumption | exact g1.2 _ _ _ rfl | exact nQ)) (k := ?_)
    refine r_getR (hm := hm) (hf := rfl) (hd := rfl) (hs := (by first | assumption | exact (g1.1 _).trans rfl | exact I1 _ (by omega) | exact I2 _ (by omega) | exact I3 _ (by omega) | exact I4 _ (by omega))) (hv := (by first | assumption | exact g1.2 _ _ _ rfl | exact nQ)) (k := ?_)
    refine r_iload_n hm rfl (k := ?_)
    refine r_iald (hm := hm) (hf := rfl) (hs := (by first | assumption | exact (g1.1 _).trans rfl | exact I1 _ (by omega) | exact I2 _ (by omega) | exact I3 _ (by omega) | exact I4 _ (by omega))) (kk := q) (hi := by omega) (hn := (by omega)) (hv := (by first | assumption | exact g1.2 _ _ _ rfl | exact nQ)) (k := ?_)
    refine r_callv (j2 := 115) hm rfl rfl rfl rfl rfl rfl (by first | assumption | exact (g1.1 _).trans rfl | exact I1 _ (by omega) | exact I2 _ (by omega) | exact I3 _ (by omega) | exact I4 _ (by omega)) (Nat.le_of_ble_eq_true rfl) (Nat.le_of_ble_eq_true rfl) rfl ⟨Nat.le_of_ble_eq_true rfl, Nat.le_of_ble_eq_true rfl, Nat.le_of_ble_eq_true rfl, Nat.le_of_ble_eq_true rfl, Nat.le_of_ble_eq_true rfl⟩ rfl (qF) (fun v9 h9 p9 => ?_)
    obtain ⟨e1, e2⟩ := p9
    subst e2
    replace e1 := e1.symm
    subst e1
    change RN 114 46 _ _ _ 0 0 _
    dsimp only [Option.toList, List.cons_append, List.nil_append]
    refine r_ireturn hm rfl rfl (by rfl) (Nat.le_of_ble_eq_true rfl) (Nat.le_of_ble_eq_true rfl) ?_
    refine ⟨IJ, fN.trans (FxC.sl SJ), ?_⟩
    unfold aKnot
    rw [if_pos (by omega), Int.toNat_natCast, kn2_cnt hok s2]
  · refine r_sipush hm rfl (k := ?_)
    refine r_ireturn hm rfl rfl (by rfl) (Nat.le_of_ble_eq_true rfl) (Nat.le_of_ble_eq_true rfl) ?_
    refine ⟨I, FxC.refl, ?_⟩
    unfold aKnot
    rw [if_neg (by omega)]
