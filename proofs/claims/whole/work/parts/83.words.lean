/-! words as numbers -/
def scd (b : Nat → Int) (P : Nat) : Nat → Int
  | 0 => 0
  | k + 1 => if 100000000000 < scd b P k then 400000000000 else 27 * scd b P k + b (P + k) - 96
def cdN (f : Nat → Int) : Nat → Int
  | 0 => 0
  | k + 1 => 27 * cdN f k + (f k - 96)
def cdW (i : Nat) : Int := cdN (fun k => (wd i).getD k 0) (wd i).length
theorem cdN_rng {f : Nat → Int} : ∀ k, (∀ q, q < k → 97 ≤ f q ∧ f q ≤ 122) → 0 ≤ cdN f k ∧ cdN f k < 27 ^ k ∧ (∀ j, k = j + 1 → 27 ^ j ≤ cdN f k) := by
  intro k
  induction k with
  | zero => intro _; exact ⟨Int.le_refl _, by show (0 : Int) < 27 ^ 0; decide, fun j hj => by omega⟩
  | succ k ih =>
    intro h
    obtain ⟨i1, i2, i3⟩ := ih (fun q hq => h q (by omega))
    have hk := h k (by omega)
    have e : cdN f (k + 1) = 27 * cdN f k + (f k - 96) := rfl
    rw [e, Int.pow_succ]
    refine ⟨by omega, by omega, fun j hj => ?_⟩
    have ej : k = j := by omega
    subst ej
    cases k with
    | zero => show (27 : Int) ^ 0 ≤ _; rw [Int.pow_zero]; omega
    | succ m =>
      have := i3 m rfl
      rw [Int.pow_succ]
      omega
theorem pw27 {k : Nat} (h : k ≤ 7) : (27 : Int) ^ k ≤ 10460353203 := by
  have c : k = 0 ∨ k = 1 ∨ k = 2 ∨ k = 3 ∨ k = 4 ∨ k = 5 ∨ k = 6 ∨ k = 7 := by omega
  rcases c with rfl | rfl | rfl | rfl | rfl | rfl | rfl | rfl <;> decide
theorem scd_ex {b : Nat → Int} {P : Nat} : ∀ k, k ≤ 8 → (∀ q, q < k → 97 ≤ b (P + q) ∧ b (P + q) ≤ 122) → scd b P k = cdN (fun q => b (P + q)) k := by
  intro k
  induction k with
  | zero => intro _ _; rfl
  | succ k ih =>
    intro hk h
    have e := ih (by omega) (fun q hq => h q (by omega))
    have r := (cdN_rng (f := fun q => b (P + q)) k (fun q hq => h q (by omega))).2.1
    have p := pw27 (k := k) (by omega)
    show (if 100000000000 < scd b P k then 400000000000 else 27 * scd b P k + b (P + k) - 96) = 27 * cdN (fun q => b (P + q)) k + (b (P + k) - 96)
    rw [e, if_neg (by omega)]
    omega
theorem scd_big {b : Nat → Int} {P : Nat} : ∀ k, (∀ q, q < 9 + k → 97 ≤ b (P + q) ∧ b (P + q) ≤ 122) → 282429536481 ≤ scd b P (9 + k) ∧ scd b P (9 + k) ≤ 2700000000030 := by
  intro k
  induction k with
  | zero =>
    intro h
    have e := scd_ex (b := b) (P := P) 8 (by omega) (fun q hq => h q (by omega))
    have r := (cdN_rng (f := fun q => b (P + q)) 8 (fun q hq => h q (by omega))).2.2 7 rfl
    have p : (27 : Int) ^ 7 = 10460353203 := by decide
    have h8 := h 8 (by omega)
    show 282429536481 ≤ (if 100000000000 < scd b P 8 then 400000000000 else 27 * scd b P 8 + b (P + 8) - 96) ∧ (if 100000000000 < scd b P 8 then 400000000000 else 27 * scd b P 8 + b (P + 8) - 96) ≤ 2700000000030
    split <;> omega
  | succ k ih =>
    intro h
    have i1 := ih (fun q hq => h q (by omega))
    show 282429536481 ≤ (if 100000000000 < scd b P (9 + k) then 400000000000 else 27 * scd b P (9 + k) + b (P + (9 + k)) - 96) ∧ (if 100000000000 < scd b P (9 + k) then 400000000000 else 27 * scd b P (9 + k) + b (P + (9 + k)) - 96) ≤ 2700000000030
    rw [if_pos (by omega)]
    omega
theorem scd_rng {b : Nat → Int} {P k : Nat} (h : ∀ q, q < k → 97 ≤ b (P + q) ∧ b (P + q) ≤ 122) : 0 ≤ scd b P k ∧ scd b P k ≤ 2700000000030 := by
  by_cases c : k ≤ 8
  · rw [scd_ex k c h]
    have r := cdN_rng (f := fun q => b (P + q)) k h
    have p : (27 : Int) ^ k ≤ 282429536481 := by
      by_cases c8 : k = 8
      · rw [c8]; decide
      · have := pw27 (k := k) (by omega); omega
    omega
  · obtain ⟨m, rfl⟩ : ∃ m, k = 9 + m := ⟨k - 9, by omega⟩
    have := scd_big m h
    omega
theorem cdN_inj {f g : Nat → Int} : ∀ m k, (∀ q, q < m → 97 ≤ f q ∧ f q ≤ 122) → (∀ q, q < k → 97 ≤ g q ∧ g q ≤ 122) → cdN f m = cdN g k → m = k ∧ ∀ q, q < m → f q = g q := by
  intro m
  induction m with
  | zero =>
    intro k hf hg e
    cases k with
    | zero => exact ⟨rfl, fun q hq => by omega⟩
    | succ k =>
      exfalso
      have r := (cdN_rng (f := g) k (fun q hq => hg q (by omega))).1
      have hk := hg k (by omega)
      have e2 : (0 : Int) = 27 * cdN g k + (g k - 96) := e
      omega
  | succ m ih =>
    intro k hf hg e
    have hm := hf m (by omega)
    cases k with
    | zero =>
      exfalso
      have r := (cdN_rng (f := f) m (fun q hq => hf q (by omega))).1
      have e2 : 27 * cdN f m + (f m - 96) = 0 := e
      omega
    | succ k =>
      have hk := hg k (by omega)
      have e2 : 27 * cdN f m + (f m - 96) = 27 * cdN g k + (g k - 96) := e
      have e3 : cdN f m = cdN g k := by omega
      obtain ⟨i1, i2⟩ := ih k (fun q hq => hf q (by omega)) (fun q hq => hg q (by omega)) e3
      subst i1
      refine ⟨rfl, fun q hq => ?_⟩
      by_cases c : q = m
      · subst c; omega
      · exact i2 q (by omega)
theorem wd_let {i : Nat} (hi : i < 12) : (∀ k, k < (wd i).length → 97 ≤ (wd i).getD k 0 ∧ (wd i).getD k 0 ≤ 122) ∧ 0 < cdW i ∧ cdW i < 282429536481 := by
  have e : ∀ i, i < 12 → (∀ k, k < (wd i).length → 97 ≤ (wd i).getD k 0 ∧ (wd i).getD k 0 ≤ 122) ∧ 0 < cdW i ∧ cdW i < 282429536481 := by decide +kernel
  exact e i hi
theorem scd_wd {b : Nat → Int} {P m i : Nat} (hi : i < 12) (h : ∀ q, q < m → 97 ≤ b (P + q) ∧ b (P + q) ≤ 122) : scd b P m = cdW i ↔ m = (wd i).length ∧ ∀ k, k < (wd i).length → b (P + k) = (wd i).getD k 0 := by
  obtain ⟨w1, w2, w3⟩ := wd_let hi
  have w4 := (wd_len hi).1
  constructor
  · intro e
    by_cases c : m ≤ 8
    · rw [scd_ex m c h] at e
      obtain ⟨i1, i2⟩ := cdN_inj (f := fun q => b (P + q)) (g := fun k => (wd i).getD k 0) m _ h w1 e
      exact ⟨i1, fun k hk => i2 k (by omega)⟩
    · obtain ⟨m', rfl⟩ : ∃ m', m = 9 + m' := ⟨m - 9, by omega⟩
      have := scd_big m' h
      omega
  · rintro ⟨e1, e2⟩
    subst e1
    rw [scd_ex _ w4 h]
    unfold cdW
    have cg : ∀ k, k ≤ (wd i).length → cdN (fun q => b (P + q)) k = cdN (fun k => (wd i).getD k 0) k := by
      intro k
      induction k with
      | zero => intro _; rfl
      | succ k ih =>
        intro hk
        show 27 * cdN (fun q => b (P + q)) k + (b (P + k) - 96) = 27 * cdN (fun k => (wd i).getD k 0) k + ((wd i).getD k 0 - 96)
        rw [ih (by omega), e2 k (by omega)]
    exact cg _ (Nat.le_refl _)
/-- where the word at P ends, and its number -/
def wE (b : Nat → Int) (n P : Nat) : Nat := ruN b 1 (n - P) P
def wC (b : Nat → Int) (n P : Nat) : Int := scd b P (wE b n P - P)
theorem wE_rng {b : Nat → Int} {n P : Nat} (h : P ≤ n) : P ≤ wE b n P ∧ wE b n P ≤ n ∧ ∀ q, q < wE b n P - P → 97 ≤ b (P + q) ∧ b (P + q) ≤ 122 := by
  obtain ⟨i1, i2, i3, i4⟩ := ruN_rng (b := b) (t := 1) (n - P) P
  unfold wE
  exact ⟨i1, by omega, fun q hq => srt1.mp (i3 (P + q) (by omega) (by omega))⟩
theorem wC_rng {b : Nat → Int} {n P : Nat} (h : P ≤ n) : 0 ≤ wC b n P ∧ wC b n P ≤ 2700000000030 := scd_rng (wE_rng h).2.2
theorem wE_tk {b : Nat → Int} {n P : Nat} (h : P ≤ n) : (tkz b n P = 1 → wE b n P = tez b n P) ∧ (tkz b n P ≠ 1 → wE b n P = P) := by
  constructor
  · intro c
    have hP : P < n := by
      apply Decidable.byContradiction
      intro z
      unfold tkz at c
      rw [if_neg z] at c
      omega
    rw [tez_run hP (Or.inl c), c]
    rfl
  · intro c
    unfold wE
    by_cases hP : P < n
    · rw [ruN_go (by omega), if_neg]
      intro z
      apply c
      unfold tkz
      rw [if_pos hP, z]
    · rw [show n - P = 0 by omega]; rfl
theorem wC_is {b : Nat → Int} {n P i : Nat} (h : P ≤ n) (hi : i < 12) : wC b n P = cdW i ↔ isW b n P i = true := by
  obtain ⟨r1, r2, r3⟩ := wE_rng (b := b) h
  obtain ⟨t1, t2⟩ := wE_tk (b := b) h
  obtain ⟨w1, w2, w3⟩ := wd_let hi
  unfold wC isW
  rw [decide_eq_true_iff]
  constructor
  · intro e
    have c1 : tkz b n P = 1 := by
      apply Decidable.byContradiction
      intro z
      rw [t2 z, Nat.sub_self] at e
      have e2 : (0 : Int) = cdW i := e
      omega
    obtain ⟨e1, e2⟩ := (scd_wd hi r3).mp e
    rw [t1 c1] at e1
    exact ⟨c1, e1, e2⟩
  · rintro ⟨c1, e1, e2⟩
    refine (scd_wd hi r3).mpr ⟨by rw [t1 c1]; exact e1, e2⟩
theorem isW_tk {b : Nat → Int} {n P i : Nat} (e : isW b n P i = true) : tkz b n P = 1 := (of_decide_eq_true e).1
theorem o64 {a c : Int} (ha : -1 ≤ a ∧ a ≤ 3000000000000) (hc : -1 ≤ c ∧ c ≤ 3000000000000) : Int64.ofInt a = Int64.ofInt c ↔ a = c := by
  constructor
  · intro e
    have e2 := congrArg Int64.toInt e
    rwa [Int64.toInt_ofInt_of_le (by omega) (by omega), Int64.toInt_ofInt_of_le (by omega) (by omega)] at e2
  · intro e; rw [e]
theorem i2l_o {a : Int} (h : inI a) : (Int32.ofInt a).toInt64 = Int64.ofInt a := by
  apply Int64.toInt_inj.mp
  rw [Int32.toInt_toInt64, inI_of h, Int64.toInt_ofInt_of_le (by unfold inI at h; omega) (by unfold inI at h; omega)]
def cd1 (v : Int64) (a : Int) : Int64 := if a = 0 then v else 27 * v + (Int32.ofInt a).toInt64 - 96
def cde (v : Int64) (a b c d : Int) : Int64 := cd1 (cd1 (cd1 (cd1 v a) b) c) d
set_option maxRecDepth 8000 in
theorem m_code {h : Hp} {v0 : Int64} {a b9 c d : Int} : RN 232 0 [some (.inr (.inl v0)), none, some (.inl a), some (.inl b9), some (.inl c), some (.inl d), none, none] [] h 0 0 (fun v h2 => h2 = h ∧ v = some (.inr (.inl (cde v0 a b9 c d)))) := by
  have hm : mrec 232 = some nM232 := rfl
  refine r_lload_n hm rfl (k := ?_)
  refine r_lstore hm rfl (k := ?_)
  refine r_iload_n hm rfl (k := ?_)
  refine r_if_ne (t := 12) hm rfl rfl (fun c4 => ?_) (fun c4 => ?_)
  · refine r_ldc2 hm rfl (hd := rfl) (k := ?_)
    refine r_lload hm rfl (k := ?_)
    refine r_lmul hm rfl (k := ?_)
    refine r_iload_n hm rfl (k := ?_)
    refine r_i2l hm rfl (k := ?_)
    refine r_ladd hm rfl (k := ?_)
    refine r_ldc2 hm rfl (hd := rfl) (k := ?_)
    refine r_lsub hm rfl (k := ?_)
    refine r_lstore hm rfl (k := ?_)
    refine r_iload_n hm rfl (k := ?_)
    refine r_if_ne (t := 36) hm rfl rfl (fun c28 => ?_) (fun c28 => ?_)
    · refine r_ldc2 hm rfl (hd := rfl) (k := ?_)
      refine r_lload hm rfl (k := ?_)
      refine r_lmul hm rfl (k := ?_)
      refine r_iload_n hm rfl (k := ?_)
      refine r_i2l hm rfl (k := ?_)
      refine r_ladd hm rfl (k := ?_)
      refine r_ldc2 hm rfl (hd := rfl) (k := ?_)
      refine r_lsub hm rfl (k := ?_)
      refine r_lstore hm rfl (k := ?_)
      refine r_iload hm rfl (k := ?_)
      refine r_if_ne (t := 61) hm rfl rfl (fun c53 => ?_) (fun c53 => ?_)
      · refine r_ldc2 hm rfl (hd := rfl) (k := ?_)
        refine r_lload hm rfl (k := ?_)
        refine r_lmul hm rfl (k := ?_)
        refine r_iload hm rfl (k := ?_)
        refine r_i2l hm rfl (k := ?_)
        refine r_ladd hm rfl (k := ?_)
        refine r_ldc2 hm rfl (hd := rfl) (k := ?_)
        refine r_lsub hm rfl (k := ?_)
        refine r_lstore hm rfl (k := ?_)
        refine r_iload hm rfl (k := ?_)
        refine r_if_ne (t := 87) hm rfl rfl (fun c79 => ?_) (fun c79 => ?_)
        · refine r_ldc2 hm rfl (hd := rfl) (k := ?_)
          refine r_lload hm rfl (k := ?_)
          refine r_lmul hm rfl (k := ?_)
          refine r_iload hm rfl (k := ?_)
          refine r_i2l hm rfl (k := ?_)
          refine r_ladd hm rfl (k := ?_)
          refine r_ldc2 hm rfl (hd := rfl) (k := ?_)
          refine r_lsub hm rfl (k := ?_)
          refine r_lreturn hm rfl rfl (Nat.le_of_ble_eq_true rfl) (Nat.le_of_ble_eq_true rfl) ?_
          refine ⟨rfl, ?_⟩
          unfold cde cd1
          rw [if_neg c4, if_neg c28, if_neg c53, if_neg c79]
        · refine r_lload hm rfl (k := ?_)
          refine r_goto (t := 101) hm rfl (k := ?_)
          refine r_lreturn hm rfl rfl (Nat.le_of_ble_eq_true rfl) (Nat.le_of_ble_eq_true rfl) ?_
          refine ⟨rfl, ?_⟩
          unfold cde cd1
          rw [if_neg c4, if_neg c28, if_neg c53, if_pos (Decidable.not_not.mp c79)]
      · refine r_lload hm rfl (k := ?_)
        refine r_goto (t := 75) hm rfl (k := ?_)
        refine r_lstore hm rfl (k := ?_)
        refine r_iload hm rfl (k := ?_)
        refine r_if_ne (t := 87) hm rfl rfl (fun c79 => ?_) (fun c79 => ?_)
        · refine r_ldc2 hm rfl (hd := rfl) (k := ?_)
          refine r_lload hm rfl (k := ?_)
          refine r_lmul hm rfl (k := ?_)
          refine r_iload hm rfl (k := ?_)
          refine r_i2l hm rfl (k := ?_)
          refine r_ladd hm rfl (k := ?_)
          refine r_ldc2 hm rfl (hd := rfl) (k := ?_)
          refine r_lsub hm rfl (k := ?_)
          refine r_lreturn hm rfl rfl (Nat.le_of_ble_eq_true rfl) (Nat.le_of_ble_eq_true rfl) ?_
          refine ⟨rfl, ?_⟩
          unfold cde cd1
          rw [if_neg c4, if_neg c28, if_pos (Decidable.not_not.mp c53), if_neg c79]
        · refine r_lload hm rfl (k := ?_)
          refine r_goto (t := 101) hm rfl (k := ?_)
          refine r_lreturn hm rfl rfl (Nat.le_of_ble_eq_true rfl) (Nat.le_of_ble_eq_true rfl) ?_
          refine ⟨rfl, ?_⟩
          unfold cde cd1
          rw [if_neg c4, if_neg c28, if_pos (Decidable.not_not.mp c53), if_pos (Decidable.not_not.mp c79)]
    · refine r_lload hm rfl (k := ?_)
      refine r_goto (t := 49) hm rfl (k := ?_)
      refine r_lstore hm rfl (k := ?_)
      refine r_iload hm rfl (k := ?_)
      refine r_if_ne (t := 61) hm rfl rfl (fun c53 => ?_) (fun c53 => ?_)
      · refine r_ldc2 hm rfl (hd := rfl) (k := ?_)
        refine r_lload hm rfl (k := ?_)
        refine r_lmul hm rfl (k := ?_)
        refine r_iload hm rfl (k := ?_)
        refine r_i2l hm rfl (k := ?_)
        refine r_ladd hm rfl (k := ?_)
        refine r_ldc2 hm rfl (hd := rfl) (k := ?_)
        refine r_lsub hm rfl (k := ?_)
        refine r_lstore hm rfl (k := ?_)
        refine r_iload hm rfl (k := ?_)
        refine r_if_ne (t := 87) hm rfl rfl (fun c79 => ?_) (fun c79 => ?_)
        · refine r_ldc2 hm rfl (hd := rfl) (k := ?_)
          refine r_lload hm rfl (k := ?_)
          refine r_lmul hm rfl (k := ?_)
          refine r_iload hm rfl (k := ?_)
          refine r_i2l hm rfl (k := ?_)
          refine r_ladd hm rfl (k := ?_)
          refine r_ldc2 hm rfl (hd := rfl) (k := ?_)
          refine r_lsub hm rfl (k := ?_)
          refine r_lreturn hm rfl rfl (Nat.le_of_ble_eq_true rfl) (Nat.le_of_ble_eq_true rfl) ?_
          refine ⟨rfl, ?_⟩
          unfold cde cd1
          rw [if_neg c4, if_pos (Decidable.not_not.mp c28), if_neg c53, if_neg c79]
        · refine r_lload hm rfl (k := ?_)
          refine r_goto (t := 101) hm rfl (k := ?_)
          refine r_lreturn hm rfl rfl (Nat.le_of_ble_eq_true rfl) (Nat.le_of_ble_eq_true rfl) ?_
          refine ⟨rfl, ?_⟩
          unfold cde cd1
          rw [if_neg c4, if_pos (Decidable.not_not.mp c28), if_neg c53, if_pos (Decidable.not_not.mp c79)]
      · refine r_lload hm rfl (k := ?_)
        refine r_goto (t := 75) hm rfl (k := ?_)
        refine r_lstore hm rfl (k := ?_)
        refine r_iload hm rfl (k := ?_)
        refine r_if_ne (t := 87) hm rfl rfl (fun c79 => ?_) (fun c79 => ?_)
        · refine r_ldc2 hm rfl (hd := rfl) (k := ?_)
          refine r_lload hm rfl (k := ?_)
          refine r_lmul hm rfl (k := ?_)
          refine r_iload hm rfl (k := ?_)
          refine r_i2l hm rfl (k := ?_)
          refine r_ladd hm rfl (k := ?_)
          refine r_ldc2 hm rfl (hd := rfl) (k := ?_)
          refine r_lsub hm rfl (k := ?_)
          refine r_lreturn hm rfl rfl (Nat.le_of_ble_eq_true rfl) (Nat.le_of_ble_eq_true rfl) ?_
          refine ⟨rfl, ?_⟩
          unfold cde cd1
          rw [if_neg c4, if_pos (Decidable.not_not.mp c28), if_pos (Decidable.not_not.mp c53), if_neg c79]
        · refine r_lload hm rfl (k := ?_)
          refine r_goto (t := 101) hm rfl (k := ?_)
          refine r_lreturn hm rfl rfl (Nat.le_of_ble_eq_true rfl) (Nat.le_of_ble_eq_true rfl) ?_
          refine ⟨rfl, ?_⟩
          unfold cde cd1
          rw [if_neg c4, if_pos (Decidable.not_not.mp c28), if_pos (Decidable.not_not.mp c53), if_pos (Decidable.not_not.mp c79)]
  · refine r_lload hm rfl (k := ?_)
    refine r_goto (t := 25) hm rfl (k := ?_)
    refine r_lstore hm rfl (k := ?_)
    refine r_iload_n hm rfl (k := ?_)
    refine r_if_ne (t := 36) hm rfl rfl (fun c28 => ?_) (fun c28 => ?_)
    · refine r_ldc2 hm rfl (hd := rfl) (k := ?_)
      refine r_lload hm rfl (k := ?_)
      refine r_lmul hm rfl (k := ?_)
      refine r_iload_n hm rfl (k := ?_)
      refine r_i2l hm rfl (k := ?_)
      refine r_ladd hm rfl (k := ?_)
      refine r_ldc2 hm rfl (hd := rfl) (k := ?_)
      refine r_lsub hm rfl (k := ?_)
      refine r_lstore hm rfl (k := ?_)
      refine r_iload hm rfl (k := ?_)
      refine r_if_ne (t := 61) hm rfl rfl (fun c53 => ?_) (fun c53 => ?_)
      · refine r_ldc2 hm rfl (hd := rfl) (k := ?_)
        refine r_lload hm rfl (k := ?_)
        refine r_lmul hm rfl (k := ?_)
        refine r_iload hm rfl (k := ?_)
        refine r_i2l hm rfl (k := ?_)
        refine r_ladd hm rfl (k := ?_)
        refine r_ldc2 hm rfl (hd := rfl) (k := ?_)
        refine r_lsub hm rfl (k := ?_)
        refine r_lstore hm rfl (k := ?_)
        refine r_iload hm rfl (k := ?_)
        refine r_if_ne (t := 87) hm rfl rfl (fun c79 => ?_) (fun c79 => ?_)
        · refine r_ldc2 hm rfl (hd := rfl) (k := ?_)
          refine r_lload hm rfl (k := ?_)
          refine r_lmul hm rfl (k := ?_)
          refine r_iload hm rfl (k := ?_)
          refine r_i2l hm rfl (k := ?_)
          refine r_ladd hm rfl (k := ?_)
          refine r_ldc2 hm rfl (hd := rfl) (k := ?_)
          refine r_lsub hm rfl (k := ?_)
          refine r_lreturn hm rfl rfl (Nat.le_of_ble_eq_true rfl) (Nat.le_of_ble_eq_true rfl) ?_
          refine ⟨rfl, ?_⟩
          unfold cde cd1
          rw [if_pos (Decidable.not_not.mp c4), if_neg c28, if_neg c53, if_neg c79]
        · refine r_lload hm rfl (k := ?_)
          refine r_goto (t := 101) hm rfl (k := ?_)
          refine r_lreturn hm rfl rfl (Nat.le_of_ble_eq_true rfl) (Nat.le_of_ble_eq_true rfl) ?_
          refine ⟨rfl, ?_⟩
          unfold cde cd1
          rw [if_pos (Decidable.not_not.mp c4), if_neg c28, if_neg c53, if_pos (Decidable.not_not.mp c79)]
      · refine r_lload hm rfl (k := ?_)
        refine r_goto (t := 75) hm rfl (k := ?_)
        refine r_lstore hm rfl (k := ?_)
        refine r_iload hm rfl (k := ?_)
        refine r_if_ne (t := 87) hm rfl rfl (fun c79 => ?_) (fun c79 => ?_)
        · refine r_ldc2 hm rfl (hd := rfl) (k := ?_)
          refine r_lload hm rfl (k := ?_)
          refine r_lmul hm rfl (k := ?_)
          refine r_iload hm rfl (k := ?_)
          refine r_i2l hm rfl (k := ?_)
          refine r_ladd hm rfl (k := ?_)
          refine r_ldc2 hm rfl (hd := rfl) (k := ?_)
          refine r_lsub hm rfl (k := ?_)
          refine r_lreturn hm rfl rfl (Nat.le_of_ble_eq_true rfl) (Nat.le_of_ble_eq_true rfl) ?_
          refine ⟨rfl, ?_⟩
          unfold cde cd1
          rw [if_pos (Decidable.not_not.mp c4), if_neg c28, if_pos (Decidable.not_not.mp c53), if_neg c79]
        · refine r_lload hm rfl (k := ?_)
          refine r_goto (t := 101) hm rfl (k := ?_)
          refine r_lreturn hm rfl rfl (Nat.le_of_ble_eq_true rfl) (Nat.le_of_ble_eq_true rfl) ?_
          refine ⟨rfl, ?_⟩
          unfold cde cd1
          rw [if_pos (Decidable.not_not.mp c4), if_neg c28, if_pos (Decidable.not_not.mp c53), if_pos (Decidable.not_not.mp c79)]
    · refine r_lload hm rfl (k := ?_)
      refine r_goto (t := 49) hm rfl (k := ?_)
      refine r_lstore hm rfl (k := ?_)
      refine r_iload hm rfl (k := ?_)
      refine r_if_ne (t := 61) hm rfl rfl (fun c53 => ?_) (fun c53 => ?_)
      · refine r_ldc2 hm rfl (hd := rfl) (k := ?_)
        refine r_lload hm rfl (k := ?_)
        refine r_lmul hm rfl (k := ?_)
        refine r_iload hm rfl (k := ?_)
        refine r_i2l hm rfl (k := ?_)
        refine r_ladd hm rfl (k := ?_)
        refine r_ldc2 hm rfl (hd := rfl) (k := ?_)
        refine r_lsub hm rfl (k := ?_)
        refine r_lstore hm rfl (k := ?_)
        refine r_iload hm rfl (k := ?_)
        refine r_if_ne (t := 87) hm rfl rfl (fun c79 => ?_) (fun c79 => ?_)
        · refine r_ldc2 hm rfl (hd := rfl) (k := ?_)
          refine r_lload hm rfl (k := ?_)
          refine r_lmul hm rfl (k := ?_)
          refine r_iload hm rfl (k := ?_)
          refine r_i2l hm rfl (k := ?_)
          refine r_ladd hm rfl (k := ?_)
          refine r_ldc2 hm rfl (hd := rfl) (k := ?_)
          refine r_lsub hm rfl (k := ?_)
          refine r_lreturn hm rfl rfl (Nat.le_of_ble_eq_true rfl) (Nat.le_of_ble_eq_true rfl) ?_
          refine ⟨rfl, ?_⟩
          unfold cde cd1
          rw [if_pos (Decidable.not_not.mp c4), if_pos (Decidable.not_not.mp c28), if_neg c53, if_neg c79]
        · refine r_lload hm rfl (k := ?_)
          refine r_goto (t := 101) hm rfl (k := ?_)
          refine r_lreturn hm rfl rfl (Nat.le_of_ble_eq_true rfl) (Nat.le_of_ble_eq_true rfl) ?_
          refine ⟨rfl, ?_⟩
          unfold cde cd1
          rw [if_pos (Decidable.not_not.mp c4), if_pos (Decidable.not_not.mp c28), if_neg c53, if_pos (Decidable.not_not.mp c79)]
      · refine r_lload hm rfl (k := ?_)
        refine r_goto (t := 75) hm rfl (k := ?_)
        refine r_lstore hm rfl (k := ?_)
        refine r_iload hm rfl (k := ?_)
        refine r_if_ne (t := 87) hm rfl rfl (fun c79 => ?_) (fun c79 => ?_)
        · refine r_ldc2 hm rfl (hd := rfl) (k := ?_)
          refine r_lload hm rfl (k := ?_)
          refine r_lmul hm rfl (k := ?_)
          refine r_iload hm rfl (k := ?_)
          refine r_i2l hm rfl (k := ?_)
          refine r_ladd hm rfl (k := ?_)
          refine r_ldc2 hm rfl (hd := rfl) (k := ?_)
          refine r_lsub hm rfl (k := ?_)
          refine r_lreturn hm rfl rfl (Nat.le_of_ble_eq_true rfl) (Nat.le_of_ble_eq_true rfl) ?_
          refine ⟨rfl, ?_⟩
          unfold cde cd1
          rw [if_pos (Decidable.not_not.mp c4), if_pos (Decidable.not_not.mp c28), if_pos (Decidable.not_not.mp c53), if_neg c79]
        · refine r_lload hm rfl (k := ?_)
          refine r_goto (t := 101) hm rfl (k := ?_)
          refine r_lreturn hm rfl rfl (Nat.le_of_ble_eq_true rfl) (Nat.le_of_ble_eq_true rfl) ?_
          refine ⟨rfl, ?_⟩
          unfold cde cd1
          rw [if_pos (Decidable.not_not.mp c4), if_pos (Decidable.not_not.mp c28), if_pos (Decidable.not_not.mp c53), if_pos (Decidable.not_not.mp c79)]
