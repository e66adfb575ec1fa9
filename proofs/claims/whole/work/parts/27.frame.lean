/-! what stays, and the numbers of all items -/
/-- h2 is h but for ints at places of S -/
def Sm (S : Nat → Nat → Prop) (h h2 : Hp) : Prop := h2.1 = h.1 ∧ h2.2.2 = h.2.2 ∧ ∀ a k, ¬ S a k → h2.2.1 a k = h.2.1 a k
theorem Sm.refl {S : Nat → Nat → Prop} {h : Hp} : Sm S h h := ⟨rfl, rfl, fun _ _ _ => rfl⟩
theorem Sm.trans {S : Nat → Nat → Prop} {h h2 h3 : Hp} (p : Sm S h h2) (q : Sm S h2 h3) : Sm S h h3 := ⟨q.1.trans p.1, q.2.1.trans p.2.1, fun a k n => (q.2.2 a k n).trans (p.2.2 a k n)⟩
theorem Sm.mono {S T : Nat → Nat → Prop} {h h2 : Hp} (p : Sm S h h2) (q : ∀ a k, S a k → T a k) : Sm T h h2 := ⟨p.1, p.2.1, fun a k n => p.2.2 a k (fun z => n (q a k z))⟩
theorem Sm.put {S : Nat → Nat → Prop} {h h2 : Hp} {a i : Nat} {v : Int} (p : Sm S h h2) (q : S a i) : Sm S h (putI h2 a i v) := ⟨p.1, p.2.1, fun b k n => (putI_ne (by
  by_cases e : b = a
  · right; intro e2; subst e; subst e2; exact n q
  · left; exact e)).trans (p.2.2 b k n)⟩
theorem Sm.fil {S : Nat → Nat → Prop} {h h2 : Hp} {a lo hi : Nat} {v : Int} (p : Sm S h h2) (q : ∀ k, lo ≤ k → k < hi → S a k) : Sm S h (filI h2 a lo hi v) := ⟨p.1, p.2.1, fun b k n => (if_neg (fun z => by
  obtain ⟨e, z1, z2⟩ := z
  subst e
  exact n (q k z1 z2)) : (filI h2 a lo hi v).2.1 b k = h2.2.1 b k).trans (p.2.2 b k n)⟩
theorem filI_ne {h : Hp} {a lo hi b k : Nat} {v : Int} (q : b ≠ a ∨ k < lo ∨ hi ≤ k) : (filI h a lo hi v).2.1 b k = h.2.1 b k := if_neg (fun z => by omega)
theorem filI_eq {h : Hp} {a lo hi k : Nat} {v : Int} (q : lo ≤ k ∧ k < hi) : (filI h a lo hi v).2.1 a k = v := if_pos ⟨rfl, q⟩
theorem Sm.gg {S : Nat → Nat → Prop} {L : Nat} {h h2 : Hp} (p : Sm S h h2) (g : GG L h) : GG L h2 := ⟨fun a => by rw [p.1]; exact g.1 a, fun a k b q => by rw [p.2.1]; exact g.2 a k b q⟩
theorem Sm.itm {S : Nat → Nat → Prop} {h h2 : Hp} (p : Sm S h h2) (t i : Nat) : itm h2 t i = itm h t i := by show (h2.2.2.1 (t + 1) i).getD 0 = _; rw [p.2.1]; rfl
theorem Sm.repC {S : Nat → Nat → Prop} {h h2 : Hp} {t : Nat} {x : Tx} (p : Sm S h h2) (hS : ∀ a k, S a k → a < t ∨ t + 244 ≤ a) (R : RepC h t x) : RepC h2 t x := by
  obtain ⟨R1, R2, R3, R4, R5, R6, R7⟩ := R
  have e : ∀ a k, t ≤ a → a < t + 244 → h2.2.1 a k = h.2.1 a k := fun a k h1 h3 => p.2.2 a k (fun z => by have := hS a k z; omega)
  refine ⟨?_, R2, ?_, ?_, ?_, ?_, ?_⟩
  · rw [e t 2 (by omega) (by omega)]; exact R1
  · intro i hi
    rw [p.itm, p.2.1]
    exact R3 i hi
  · intro i j hi hj
    rw [p.itm, p.itm]
    exact R4 i j hi hj
  · intro f i hf hi
    obtain ⟨q, hq, hx⟩ := (R3 i (by omega)).2
    rw [p.itm, e _ _ (by omega) (by omega)]
    exact R5 f i hf hi
  · intro f i k hf hi hk
    obtain ⟨q, hq, hx⟩ := (R3 i (by omega)).2
    rw [p.itm, e _ _ (by omega) (by omega)]
    exact R6 f i k hf hi hk
  · intro k hk
    rw [e _ _ (by omega) (by omega)]
    exact R7 k hk
theorem Sm.repM {S : Nat → Nat → Prop} {h h2 : Hp} {c : Nat} {x : Tx} (p : Sm S h h2) (hS : ∀ a k, S a k → a < 1086 ∨ 1096 < a) (R : RepM h c x) : RepM h2 c x := by
  obtain ⟨R1, R2, R3, R4, R5⟩ := R
  have e : ∀ a k, 1086 ≤ a → a ≤ 1096 → h2.2.1 a k = h.2.1 a k := fun a k h1 h3 => p.2.2 a k (fun z => by have := hS a k z; omega)
  refine ⟨?_, R2, ?_, ?_, ?_⟩
  · rw [e _ _ (by omega) (by omega)]; exact R1
  · intro f i hf hi
    rw [e _ _ (by omega) (by omega)]; exact R3 f i hf hi
  · intro f i k hf hi hk
    rw [e _ _ (by omega) (by omega)]; exact R4 f i k hf hi hk
  · intro k hk
    rw [e _ _ (by omega) (by omega)]; exact R5 k hk
theorem Sm.cn {S : Nat → Nat → Prop} {h h2 : Hp} (p : Sm S h h2) (hS : ∀ a k, S a k → 28 ≤ a) (C : CN h) : CN h2 := by
  obtain ⟨C1, C2, C3, C4, C5⟩ := C
  have e : ∀ a k, a < 28 → h2.2.1 a k = h.2.1 a k := fun a k h1 => p.2.2 a k (fun z => by have := hS a k z; omega)
  refine ⟨?_, ?_, ?_, ?_, ?_⟩
  · intro k; rw [e _ _ (by omega)]; exact C1 k
  · intro k; rw [e _ _ (by omega)]; exact C2 k
  · intro i k hi; rw [e _ _ (by omega)]; exact C3 i k hi
  · intro i hi; rw [e _ _ (by omega)]; exact C4 i hi
  · intro i hi; rw [p.2.1]; exact C5 i hi
theorem c_saidI {L : Nat} {h : Hp} (g : GG L h) (C : CN h) {z f : Int} (h0 : 0 ≤ z) (h1 : z ≤ 100) : RN 40 0 [some (.inl z), some (.inl f)] [] h 0 0 (fun v h2 => h2 = h ∧ v = some (.inl (sdn z.toNat f))) := by
  obtain ⟨n, rfl⟩ := Int.eq_ofNat_of_zero_le h0
  exact c_said g C (by omega)
theorem m_saidByI {h : Hp} {z f : Int} (h0 : 0 ≤ z) (h1 : z ≤ 100) (hf : 0 ≤ f ∧ f ≤ 2) : RN 178 0 [some (.inl z), some (.inl f)] [] h 0 0 (fun v h2 => h2 = h ∧ v = some (.inl (sdn z.toNat f))) := by
  obtain ⟨n, rfl⟩ := Int.eq_ofNat_of_zero_le h0
  exact m_saidBy (by omega) hf
theorem sm_rng {f : Nat → Int} {lo hi : Int} : ∀ (d i : Nat), (∀ k, i ≤ k → k < i + d → lo ≤ f k ∧ f k ≤ hi) → lo * d ≤ sm f i d ∧ sm f i d ≤ hi * d := by
  intro d
  induction d with
  | zero => intro i _; simp [sm]
  | succ d ih =>
    intro i hf
    have h1 := hf i (by omega) (by omega)
    have h2 := ih (i + 1) (fun k hk hk2 => hf k (by omega) (by omega))
    unfold sm
    have e1 : lo * ((d + 1 : Nat) : Int) = lo * (d : Int) + lo := by rw [Int.natCast_succ, Int.mul_add, Int.mul_one]
    have e2 : hi * ((d + 1 : Nat) : Int) = hi * (d : Int) + hi := by rw [Int.natCast_succ, Int.mul_add, Int.mul_one]
    omega
def regN (n : Nat) (a _k : Nat) : Prop := n ≤ a ∧ a < n + 6
theorem c_ownCount {L : Nat} {h : Hp} {n t : Nat} {x : Tx} (g : GG L h) (hN : isN n) (ht : isT t) (hR : RepC h t x) {i : Nat} (hi : i < x.1) (hok : okIt x i) (hf : (0 ≤ h.2.1 n 5 ∧ h.2.1 n 5 ≤ 100) ∧ (0 ≤ h.2.1 n 6 ∧ h.2.1 n 6 ≤ 100)) : RN 36 0 [some (.inr (.inr (some (n)))), some (.inr (.inr (some (itm h t i))))] [] h 0 0 (fun v h2 => h2 = (if x.2.1 1 i = 2 then putI h n 5 (h.2.1 n 5 + 1) else if x.2.1 1 i = 3 then putI h n 6 (h.2.1 n 6 + 1) else h) ∧ v = some (.inl (if x.2.1 1 i = 0 then h.2.1 (n + 5) (x.2.1 2 i - 1).toNat else if x.2.1 1 i = 2 then h.2.1 n 5 + 1 else if x.2.1 1 i = 3 then h.2.1 n 6 + 1 else 0))) := by
  obtain ⟨N0, N1, N2, N3, N4, N5, Q0, Q1, Q2, Q3, Q4, N28⟩ := g.nm hN
  obtain ⟨T1, T2, T3, T4, T5, T6, T7⟩ := g.tx ht
  obtain ⟨I0, I1, I2, I3, I4, J0, J1, J2, F0, F1, F2, F3, F4, P0, P1, P2⟩ := hR.use g ht
  obtain ⟨R1, R2, R3, R4, R5, R6, R7⟩ := id hR
  have hm : mrec 36 = some nM36 := rfl
  obtain ⟨O0, O1, O2, O3, O4, -⟩ := hok
  refine r_aload_n hm rfl (k := ?_)
  refine r_getI (hm := hm) (hf := rfl) (hd := rfl) (hs := (by first | assumption | exact N5 | exact N4 | exact N3 | exact N2 | exact N1 | exact N0 | exact I1 _ (by omega))) (hv := (by first | assumption | exact Q0 | exact Q1 | exact Q2 | exact Q3 | exact Q4 | exact I0 _ (by omega) | exact F1 _ (by omega) | exact F2 _ (by omega) | rfl)) (k := ?_)
  by_cases s4_0 : x.2.1 1 i = 0
  · refine r_tsw hm rfl 36 (fun q => by omega) (fun q => ⟨32, by rw [s4_0]; rfl, rfl⟩) ?_
    refine r_aload_n hm rfl (k := ?_)
    refine r_getR (hm := hm) (hf := rfl) (hd := rfl) (hs := (by first | assumption | exact N5 | exact N4 | exact N3 | exact N2 | exact N1 | exact N0 | exact I1 _ (by omega))) (hv := (by first | assumption | exact Q0 | exact Q1 | exact Q2 | exact Q3 | exact Q4 | exact I0 _ (by omega) | exact F1 _ (by omega) | exact F2 _ (by omega) | rfl)) (k := ?_)
    refine r_aload_n hm rfl (k := ?_)
    refine r_getI (hm := hm) (hf := rfl) (hd := rfl) (hs := (by first | assumption | exact N5 | exact N4 | exact N3 | exact N2 | exact N1 | exact N0 | exact I1 _ (by omega))) (hv := (by first | assumption | exact Q0 | exact Q1 | exact Q2 | exact Q3 | exact Q4 | exact I0 _ (by omega) | exact F1 _ (by omega) | exact F2 _ (by omega) | rfl)) (k := ?_)
    refine r_iconst hm rfl (k := ?_)
    refine r_isub hm rfl (hr := (by omega)) (k := ?_)
    refine r_iald (hm := hm) (hf := rfl) (hs := (by first | assumption | exact N5 | exact N4 | exact N3 | exact N2 | exact N1 | exact N0 | exact I1 _ (by omega))) (kk := (x.2.1 2 i - 1).toNat) (hi := by omega) (hn := (by omega)) (hv := (by first | assumption | exact Q0 | exact Q1 | exact Q2 | exact Q3 | exact Q4 | exact I0 _ (by omega) | exact F1 _ (by omega) | exact F2 _ (by omega) | rfl)) (k := ?_)
    refine r_ireturn hm rfl rfl (by rfl) (Nat.le_of_ble_eq_true rfl) (Nat.le_of_ble_eq_true rfl) ?_
    exact ⟨by first | (rw [if_neg (by omega), if_neg (by omega)]; done) | (rw [if_pos (by omega)]; done) | (rw [if_neg (by omega), if_pos (by omega)]; done), by first | (rw [if_pos (by omega)]; done) | (rw [if_neg (by omega), if_neg (by omega), if_neg (by omega)]; done) | (rw [if_neg (by omega), if_pos (by omega)]; done) | (rw [if_neg (by omega), if_neg (by omega), if_pos (by omega)]; done)⟩
  by_cases s4_1 : x.2.1 1 i = 1
  · refine r_tsw hm rfl 78 (fun q => by omega) (fun q => ⟨74, by rw [s4_1]; rfl, rfl⟩) ?_
    refine r_iconst hm rfl (k := ?_)
    refine r_ireturn hm rfl rfl (by rfl) (Nat.le_of_ble_eq_true rfl) (Nat.le_of_ble_eq_true rfl) ?_
    exact ⟨by first | (rw [if_neg (by omega), if_neg (by omega)]; done) | (rw [if_pos (by omega)]; done) | (rw [if_neg (by omega), if_pos (by omega)]; done), by first | (rw [if_pos (by omega)]; done) | (rw [if_neg (by omega), if_neg (by omega), if_neg (by omega)]; done) | (rw [if_neg (by omega), if_pos (by omega)]; done) | (rw [if_neg (by omega), if_neg (by omega), if_pos (by omega)]; done)⟩
  by_cases s4_2 : x.2.1 1 i = 2
  · refine r_tsw hm rfl 48 (fun q => by omega) (fun q => ⟨44, by rw [s4_2]; rfl, rfl⟩) ?_
    refine r_aload_n hm rfl (k := ?_)
    refine r_dup hm rfl (k := ?_)
    
    refine r_getI (hm := hm) (hf := rfl) (hd := rfl) (hs := (by first | assumption | exact N5 | exact N4 | exact N3 | exact N2 | exact N1 | exact N0 | exact I1 _ (by omega))) (hv := (by first | assumption | exact Q0 | exact Q1 | exact Q2 | exact Q3 | exact Q4 | exact I0 _ (by omega) | exact F1 _ (by omega) | exact F2 _ (by omega) | rfl)) (k := ?_)
    have hr1 := hf.1
    refine r_iconst hm rfl (k := ?_)
    refine r_iadd hm rfl (hr := (by omega)) (k := ?_)
    refine r_putI (hm := hm) (hf := rfl) (hd := rfl) (hs := (by first | assumption | exact N5 | exact N4 | exact N3 | exact N2 | exact N1 | exact N0 | exact I1 _ (by omega))) (hfin := Or.inl rfl) (hz := fun q9 => absurd q9 (by decide)) (k := ?_)
    refine r_aload_n hm rfl (k := ?_)
    refine r_getI (hm := hm) (hf := rfl) (hd := rfl) (hs := (by first | assumption | exact N5 | exact N4 | exact N3 | exact N2 | exact N1 | exact N0 | exact I1 _ (by omega))) (hv := putI_eq) (k := ?_)
    refine r_ireturn hm rfl rfl (by rfl) (Nat.le_of_ble_eq_true rfl) (Nat.le_of_ble_eq_true rfl) ?_
    exact ⟨by first | (rw [if_neg (by omega), if_neg (by omega)]; done) | (rw [if_pos (by omega)]; done) | (rw [if_neg (by omega), if_pos (by omega)]; done), by first | (rw [if_pos (by omega)]; done) | (rw [if_neg (by omega), if_neg (by omega), if_neg (by omega)]; done) | (rw [if_neg (by omega), if_pos (by omega)]; done) | (rw [if_neg (by omega), if_neg (by omega), if_pos (by omega)]; done)⟩
  by_cases s4_3 : x.2.1 1 i = 3
  · refine r_tsw hm rfl 63 (fun q => by omega) (fun q => ⟨59, by rw [s4_3]; rfl, rfl⟩) ?_
    refine r_aload_n hm rfl (k := ?_)
    refine r_dup hm rfl (k := ?_)
    refine r_getI (hm := hm) (hf := rfl) (hd := rfl) (hs := (by first | assumption | exact N5 | exact N4 | exact N3 | exact N2 | exact N1 | exact N0 | exact I1 _ (by omega))) (hv := (by first | assumption | exact Q0 | exact Q1 | exact Q2 | exact Q3 | exact Q4 | exact I0 _ (by omega) | exact F1 _ (by omega) | exact F2 _ (by omega) | rfl)) (k := ?_)
    have hr2 := hf.2
    refine r_iconst hm rfl (k := ?_)
    refine r_iadd hm rfl (hr := (by omega)) (k := ?_)
    refine r_putI (hm := hm) (hf := rfl) (hd := rfl) (hs := (by first | assumption | exact N5 | exact N4 | exact N3 | exact N2 | exact N1 | exact N0 | exact I1 _ (by omega))) (hfin := Or.inl rfl) (hz := fun q9 => absurd q9 (by decide)) (k := ?_)
    refine r_aload_n hm rfl (k := ?_)
    refine r_getI (hm := hm) (hf := rfl) (hd := rfl) (hs := (by first | assumption | exact N5 | exact N4 | exact N3 | exact N2 | exact N1 | exact N0 | exact I1 _ (by omega))) (hv := putI_eq) (k := ?_)
    refine r_ireturn hm rfl rfl (by rfl) (Nat.le_of_ble_eq_true rfl) (Nat.le_of_ble_eq_true rfl) ?_
    exact ⟨by first | (rw [if_neg (by omega), if_neg (by omega)]; done) | (rw [if_pos (by omega)]; done) | (rw [if_neg (by omega), if_pos (by omega)]; done), by first | (rw [if_pos (by omega)]; done) | (rw [if_neg (by omega), if_neg (by omega), if_neg (by omega)]; done) | (rw [if_neg (by omega), if_pos (by omega)]; done) | (rw [if_neg (by omega), if_neg (by omega), if_pos (by omega)]; done)⟩
  refine r_tsw hm rfl 78 (fun q => rfl) (fun q => by exfalso; omega) ?_
  refine r_iconst hm rfl (k := ?_)
  refine r_ireturn hm rfl rfl (by rfl) (Nat.le_of_ble_eq_true rfl) (Nat.le_of_ble_eq_true rfl) ?_
  exact ⟨by first | (rw [if_neg (by omega), if_neg (by omega)]; done) | (rw [if_pos (by omega)]; done) | (rw [if_neg (by omega), if_pos (by omega)]; done), by first | (rw [if_pos (by omega)]; done) | (rw [if_neg (by omega), if_neg (by omega), if_neg (by omega)]; done) | (rw [if_neg (by omega), if_pos (by omega)]; done) | (rw [if_neg (by omega), if_neg (by omega), if_pos (by omega)]; done)⟩
theorem c_writeRow_l {L : Nat} {h : Hp} {n : Nat} (g : GG L h) (hN : isN n) {i : Nat} {len : Int} (hi : i < 60) : ∀ (d k : Nat) (h1 : Hp), k + d = 4 → Sm (fun a q => a = n + 4 ∧ 4 * i ≤ q ∧ q < 4 * i + 4) h h1 → (∀ q : Nat, q < k → h1.2.1 (n + 4) (4 * i + q) = if (q : Int) < len then h.2.1 (n + 5) q else -1) → RN 37 2 [some (.inr (.inr (some (n)))), some (.inl (i : Int)), some (.inl len), some (.inl (k : Int))] [] h1 0 0 (fun v h2 => Sm (fun a q => a = n + 4 ∧ 4 * i ≤ q ∧ q < 4 * i + 4) h h2 ∧ (∀ q : Nat, q < 4 → h2.2.1 (n + 4) (4 * i + q) = if (q : Int) < len then h.2.1 (n + 5) q else -1) ∧ v = none) := by
  have hm : mrec 37 = some nM37 := rfl
  intro d
  induction d with
  | zero =>
    intro k h1 hk S1 C1
    obtain ⟨N0, N1, N2, N3, N4, N5, Q0, Q1, Q2, Q3, Q4, N28⟩ := (S1.gg g).nm hN
    refine r_iload_n hm rfl (k := ?_)
    refine r_iconst hm rfl (k := ?_)
    refine r_icmp_ge (t := 38) hm rfl rfl (fun c4 => ?_) (fun c4 => ?_)
    · refine r_return hm rfl rfl (Nat.le_of_ble_eq_true rfl) (Nat.le_of_ble_eq_true rfl) ?_
      have e4 : k = 4 := by omega
      subst e4
      exact ⟨S1, C1, rfl⟩
    · exfalso; omega
  | succ d ih =>
    intro k h1 hk S1 C1
    obtain ⟨N0, N1, N2, N3, N4, N5, Q0, Q1, Q2, Q3, Q4, N28⟩ := (S1.gg g).nm hN
    refine r_iload_n hm rfl (k := ?_)
    refine r_iconst hm rfl (k := ?_)
    refine r_icmp_ge (t := 38) hm rfl rfl (fun c4 => ?_) (fun c4 => ?_)
    · exfalso; omega
    · refine r_aload_n hm rfl (k := ?_)
      refine r_getR (hm := hm) (hf := rfl) (hd := rfl) (hs := (by first | assumption | exact N5 | exact N4 | exact N3 | exact N2 | exact N1 | exact N0 | exact I1 _ (by omega))) (hv := (by first | assumption | exact Q0 | exact Q1 | exact Q2 | exact Q3 | exact Q4 | exact I0 _ (by omega) | exact F1 _ (by omega) | exact F2 _ (by omega) | rfl)) (k := ?_)
      refine r_iload_n hm rfl (k := ?_)
      refine r_iconst hm rfl (k := ?_)
      refine r_imul hm rfl (hr := (by omega)) (k := ?_)
      refine r_iload_n hm rfl (k := ?_)
      refine r_iadd hm rfl (hr := (by omega)) (k := ?_)
      refine r_iload_n hm rfl (k := ?_)
      refine r_iload_n hm rfl (k := ?_)
      refine r_icmp_ge (t := 30) hm rfl rfl (fun c18 => ?_) (fun c18 => ?_)
      · refine r_iconst hm rfl (k := ?_)
        refine r_iast (hm := hm) (hf := rfl) (h28 := (by omega)) (hs := (by first | assumption | exact N5 | exact N4 | exact N3 | exact N2 | exact N1 | exact N0 | exact I1 _ (by omega))) (kk := 4 * i + k) (hi := by omega) (hn := (by omega)) (k := ?_)
        refine r_iinc hm rfl (hr := (by omega)) (k := ?_)
        refine r_goto (t := 2) hm rfl (k := ?_)
        refine ih (k + 1) _ (by omega) (Sm.put S1 (by omega)) (fun q hq => ?_)
        by_cases hq2 : q = k
        · subst hq2
          rw [putI_eq]
          first | (rw [if_pos (by omega)]; done) | (rw [if_neg (by omega)]; done) | (rw [if_pos (by omega)]; exact S1.2.2 _ _ (by omega))
        · rw [putI_ne (by omega)]
          exact C1 q (by omega)
      · refine r_aload_n hm rfl (k := ?_)
        refine r_getR (hm := hm) (hf := rfl) (hd := rfl) (hs := (by first | assumption | exact N5 | exact N4 | exact N3 | exact N2 | exact N1 | exact N0 | exact I1 _ (by omega))) (hv := (by first | assumption | exact Q0 | exact Q1 | exact Q2 | exact Q3 | exact Q4 | exact I0 _ (by omega) | exact F1 _ (by omega) | exact F2 _ (by omega) | rfl)) (k := ?_)
        refine r_iload_n hm rfl (k := ?_)
        refine r_iald (hm := hm) (hf := rfl) (hs := (by first | assumption | exact N5 | exact N4 | exact N3 | exact N2 | exact N1 | exact N0 | exact I1 _ (by omega))) (hi := rfl) (hn := (by omega)) (hv := (by first | assumption | exact Q0 | exact Q1 | exact Q2 | exact Q3 | exact Q4 | exact I0 _ (by omega) | exact F1 _ (by omega) | exact F2 _ (by omega) | rfl)) (k := ?_)
        refine r_goto (t := 31) hm rfl (k := ?_)
        refine r_iast (hm := hm) (hf := rfl) (h28 := (by omega)) (hs := (by first | assumption | exact N5 | exact N4 | exact N3 | exact N2 | exact N1 | exact N0 | exact I1 _ (by omega))) (kk := 4 * i + k) (hi := by omega) (hn := (by omega)) (k := ?_)
        refine r_iinc hm rfl (hr := (by omega)) (k := ?_)
        refine r_goto (t := 2) hm rfl (k := ?_)
        refine ih (k + 1) _ (by omega) (Sm.put S1 (by omega)) (fun q hq => ?_)
        by_cases hq2 : q = k
        · subst hq2
          rw [putI_eq]
          first | (rw [if_pos (by omega)]; done) | (rw [if_neg (by omega)]; done) | (rw [if_pos (by omega)]; exact S1.2.2 _ _ (by omega))
        · rw [putI_ne (by omega)]
          exact C1 q (by omega)
theorem c_writeRow {L : Nat} {h : Hp} {n : Nat} (g : GG L h) (hN : isN n) {i : Nat} {len : Int} (hi : i < 60) : RN 37 0 [some (.inr (.inr (some (n)))), some (.inl (i : Int)), some (.inl len), none] [] h 0 0 (fun v h2 => Sm (fun a q => a = n + 4 ∧ 4 * i ≤ q ∧ q < 4 * i + 4) h h2 ∧ (∀ q : Nat, q < 4 → h2.2.1 (n + 4) (4 * i + q) = if (q : Int) < len then h.2.1 (n + 5) q else -1) ∧ v = none) := by
  obtain ⟨N0, N1, N2, N3, N4, N5, Q0, Q1, Q2, Q3, Q4, N28⟩ := g.nm hN
  have hm : mrec 37 = some nM37 := rfl
  refine r_iconst hm rfl (k := ?_)
  refine r_istore_n hm rfl (k := ?_)
  exact c_writeRow_l g hN hi 4 0 h (by omega) Sm.refl (fun q hq => by omega)
theorem c_sayHeading_l {L : Nat} {h : Hp} {n t : Nat} {x : Tx} (g : GG L h) (hN : isN n) (ht : isT t) (hR : RepC h t x) (C : CN h) (hu : ∀ q, q < 4 → 0 ≤ h.2.1 (n + 5) q ∧ h.2.1 (n + 5) q ≤ 100) {l : Nat} (hl1 : 1 ≤ l) (hl4 : l ≤ 4) {r : Int} : ∀ (d q : Nat) (s : Int), q + d = l → 1 ≤ q → 0 ≤ s ∧ s ≤ 30 * q → s + sm (fun q => sdn (h.2.1 (n + 5) (q - 1)).toNat (x.2.2.2 (1 + q)) + 1) q d = r → RN 38 28 [some (.inr (.inr (some (n)))), some (.inl (l : Int)), some (.inr (.inr (some (t + 2)))), some (.inl s), some (.inl (q : Int))] [] h 0 0 (fun v h2 => h2 = h ∧ v = some (.inl r)) := by
  obtain ⟨N0, N1, N2, N3, N4, N5, Q0, Q1, Q2, Q3, Q4, N28⟩ := g.nm hN
  obtain ⟨T1, T2, T3, T4, T5, T6, T7⟩ := g.tx ht
  obtain ⟨I0, I1, I2, I3, I4, J0, J1, J2, F0, F1, F2, F3, F4, P0, P1, P2⟩ := hR.use g ht
  obtain ⟨R1, R2, R3, R4, R5, R6, R7⟩ := id hR
  have hm : mrec 38 = some nM38 := rfl
  intro d
  induction d with
  | zero =>
    intro q s hq h1 hs hr
    refine r_iload hm rfl (k := ?_)
    refine r_iload_n hm rfl (k := ?_)
    refine r_icmp_ge (t := 63) hm rfl rfl (fun c31 => ?_) (fun c31 => ?_)
    · refine r_iload_n hm rfl (k := ?_)
      refine r_ireturn hm rfl rfl (by rfl) (Nat.le_of_ble_eq_true rfl) (Nat.le_of_ble_eq_true rfl) ?_
      exact ⟨rfl, by rw [← hr]; simp [sm]⟩
    · exfalso; omega
  | succ d ih =>
    intro q s hq h1 hs hr
    refine r_iload hm rfl (k := ?_)
    refine r_iload_n hm rfl (k := ?_)
    refine r_icmp_ge (t := 63) hm rfl rfl (fun c31 => ?_) (fun c31 => ?_)
    · exfalso; omega
    · have hu9 := hu (q - 1) (by omega)
      have hs9 := @sdn_rng (h.2.1 (n + 5) (q - 1)).toNat (x.2.2.2 (1 + q)) (by omega)
      refine r_iload_n hm rfl (k := ?_)
      refine r_aload_n hm rfl (k := ?_)
      refine r_getR (hm := hm) (hf := rfl) (hd := rfl) (hs := (by first | assumption | exact N5 | exact N4 | exact N3 | exact N2 | exact N1 | exact N0 | exact I1 _ (by omega))) (hv := (by first | assumption | exact Q0 | exact Q1 | exact Q2 | exact Q3 | exact Q4 | exact I0 _ (by omega) | exact F1 _ (by omega) | exact F2 _ (by omega) | rfl)) (k := ?_)
      refine r_iload hm rfl (k := ?_)
      refine r_iconst hm rfl (k := ?_)
      refine r_isub hm rfl (hr := (by omega)) (k := ?_)
      refine r_iald (hm := hm) (hf := rfl) (hs := (by first | assumption | exact N5 | exact N4 | exact N3 | exact N2 | exact N1 | exact N0 | exact I1 _ (by omega))) (kk := q - 1) (hi := by omega) (hn := (by omega)) (hv := (by first | assumption | exact Q0 | exact Q1 | exact Q2 | exact Q3 | exact Q4 | exact I0 _ (by omega) | exact F1 _ (by omega) | exact F2 _ (by omega) | rfl)) (k := ?_)
      refine r_aload_n hm rfl (k := ?_)
      refine r_iload hm rfl (k := ?_)
      refine r_callv (j2 := 39) hm rfl rfl rfl rfl rfl rfl (by first | assumption | exact N5 | exact N4 | exact N3 | exact N2 | exact N1 | exact N0 | exact I1 _ (by omega)) (Nat.le_of_ble_eq_true rfl) (Nat.le_of_ble_eq_true rfl) rfl ⟨Nat.le_of_ble_eq_true rfl, Nat.le_of_ble_eq_true rfl, Nat.le_of_ble_eq_true rfl, Nat.le_of_ble_eq_true rfl, Nat.le_of_ble_eq_true rfl⟩ rfl (c_form (s := t + 2) (l := q) (by omega) (by omega) T3 T4 T7) (fun v9 h9 p9 => ?_)
      obtain ⟨e1, e2⟩ := p9
      subst e2
      replace e1 := e1.symm
      subst e1
      rw [R7 (1 + q) (by omega)]
      change RN 38 50 _ _ _ 0 0 _
      dsimp only [Option.toList, List.cons_append, List.nil_append]
      refine r_calls (j2 := 40) hm rfl rfl rfl rfl rfl rfl (Nat.le_of_ble_eq_true rfl) (Nat.le_of_ble_eq_true rfl) rfl ⟨Nat.le_of_ble_eq_true rfl, Nat.le_of_ble_eq_true rfl, Nat.le_of_ble_eq_true rfl, Nat.le_of_ble_eq_true rfl, Nat.le_of_ble_eq_true rfl⟩ rfl (c_saidI g C (by omega) (by omega)) (fun v9 h9 p9 => ?_)
      obtain ⟨e1, e2⟩ := p9
      subst e2
      replace e1 := e1.symm
      subst e1
      change RN 38 53 _ _ _ 0 0 _
      dsimp only [Option.toList, List.cons_append, List.nil_append]
      refine r_iconst hm rfl (k := ?_)
      refine r_iadd hm rfl (hr := (by omega)) (k := ?_)
      refine r_iadd hm rfl (hr := (by omega)) (k := ?_)
      refine r_istore_n hm rfl (k := ?_)
      refine r_iinc hm rfl (hr := (by omega)) (k := ?_)
      refine r_goto (t := 28) hm rfl (k := ?_)
      exact ih (q + 1) _ (by omega) (by omega) (by omega) (by rw [← hr]; simp only [sm]; omega)
theorem c_sayHeading {L : Nat} {h : Hp} {n t : Nat} {x : Tx} (g : GG L h) (hN : isN n) (ht : isT t) (hR : RepC h t x) (C : CN h) (hu : ∀ q, q < 4 → 0 ≤ h.2.1 (n + 5) q ∧ h.2.1 (n + 5) q ≤ 100) {l : Nat} (hl1 : 1 ≤ l) (hl4 : l ≤ 4) : RN 38 0 [some (.inr (.inr (some (n)))), some (.inl (l : Int)), some (.inr (.inr (some (t + 2)))), none, none] [] h 0 0 (fun v h2 => h2 = h ∧ v = some (.inl (nHd (h.2.1 (n + 5)) x.2.2.2 l))) := by
  obtain ⟨N0, N1, N2, N3, N4, N5, Q0, Q1, Q2, Q3, Q4, N28⟩ := g.nm hN
  obtain ⟨T1, T2, T3, T4, T5, T6, T7⟩ := g.tx ht
  obtain ⟨I0, I1, I2, I3, I4, J0, J1, J2, F0, F1, F2, F3, F4, P0, P1, P2⟩ := hR.use g ht
  obtain ⟨R1, R2, R3, R4, R5, R6, R7⟩ := id hR
  have hm : mrec 38 = some nM38 := rfl
  have hu9 := hu (l - 1) (by omega)
  have hs9 := @sdn_rng (h.2.1 (n + 5) (l - 1)).toNat (x.2.2.2 (1 + l)) (by omega)
  refine r_aload_n hm rfl (k := ?_)
  refine r_getR (hm := hm) (hf := rfl) (hd := rfl) (hs := (by first | assumption | exact N5 | exact N4 | exact N3 | exact N2 | exact N1 | exact N0 | exact I1 _ (by omega))) (hv := (by first | assumption | exact Q0 | exact Q1 | exact Q2 | exact Q3 | exact Q4 | exact I0 _ (by omega) | exact F1 _ (by omega) | exact F2 _ (by omega) | rfl)) (k := ?_)
  refine r_iload_n hm rfl (k := ?_)
  refine r_iconst hm rfl (k := ?_)
  refine r_isub hm rfl (hr := (by omega)) (k := ?_)
  refine r_iald (hm := hm) (hf := rfl) (hs := (by first | assumption | exact N5 | exact N4 | exact N3 | exact N2 | exact N1 | exact N0 | exact I1 _ (by omega))) (kk := l - 1) (hi := by omega) (hn := (by omega)) (hv := (by first | assumption | exact Q0 | exact Q1 | exact Q2 | exact Q3 | exact Q4 | exact I0 _ (by omega) | exact F1 _ (by omega) | exact F2 _ (by omega) | rfl)) (k := ?_)
  refine r_aload_n hm rfl (k := ?_)
  refine r_iload_n hm rfl (k := ?_)
  refine r_callv (j2 := 39) hm rfl rfl rfl rfl rfl rfl (by first | assumption | exact N5 | exact N4 | exact N3 | exact N2 | exact N1 | exact N0 | exact I1 _ (by omega)) (Nat.le_of_ble_eq_true rfl) (Nat.le_of_ble_eq_true rfl) rfl ⟨Nat.le_of_ble_eq_true rfl, Nat.le_of_ble_eq_true rfl, Nat.le_of_ble_eq_true rfl, Nat.le_of_ble_eq_true rfl, Nat.le_of_ble_eq_true rfl⟩ rfl (c_form (s := t + 2) (l := l) (by omega) (by omega) T3 T4 T7) (fun v9 h9 p9 => ?_)
  obtain ⟨e1, e2⟩ := p9
  subst e2
  replace e1 := e1.symm
  subst e1
  rw [R7 (1 + l) (by omega)]
  change RN 38 13 _ _ _ 0 0 _
  dsimp only [Option.toList, List.cons_append, List.nil_append]
  refine r_calls (j2 := 40) hm rfl rfl rfl rfl rfl rfl (Nat.le_of_ble_eq_true rfl) (Nat.le_of_ble_eq_true rfl) rfl ⟨Nat.le_of_ble_eq_true rfl, Nat.le_of_ble_eq_true rfl, Nat.le_of_ble_eq_true rfl, Nat.le_of_ble_eq_true rfl, Nat.le_of_ble_eq_true rfl⟩ rfl (c_saidI g C (by omega) (by omega)) (fun v9 h9 p9 => ?_)
  obtain ⟨e1, e2⟩ := p9
  subst e2
  replace e1 := e1.symm
  subst e1
  change RN 38 16 _ _ _ 0 0 _
  dsimp only [Option.toList, List.cons_append, List.nil_append]
  refine r_istore_n hm rfl (k := ?_)
  refine r_aload_n hm rfl (k := ?_)
  refine r_iload_n hm rfl (k := ?_)
  refine r_callv (j2 := 44) hm rfl rfl rfl rfl rfl rfl (by first | assumption | exact N5 | exact N4 | exact N3 | exact N2 | exact N1 | exact N0 | exact I1 _ (by omega)) (Nat.le_of_ble_eq_true rfl) (Nat.le_of_ble_eq_true rfl) rfl ⟨Nat.le_of_ble_eq_true rfl, Nat.le_of_ble_eq_true rfl, Nat.le_of_ble_eq_true rfl, Nat.le_of_ble_eq_true rfl, Nat.le_of_ble_eq_true rfl⟩ rfl (c_isLong (s := t + 2) (l := l) (by omega) (by omega) T3 T4 T7) (fun v9 h9 p9 => ?_)
  obtain ⟨e1, e2⟩ := p9
  subst e2
  replace e1 := e1.symm
  subst e1
  rw [R7 (5 + l) (by omega)]
  change RN 38 22 _ _ _ 0 0 _
  dsimp only [Option.toList, List.cons_append, List.nil_append]
  refine r_if_eq (t := 63) hm rfl rfl (fun c22 => ?_) (fun c22 => ?_)
  · refine r_iload_n hm rfl (k := ?_)
    refine r_ireturn hm rfl rfl (by rfl) (Nat.le_of_ble_eq_true rfl) (Nat.le_of_ble_eq_true rfl) ?_
    refine ⟨rfl, ?_⟩
    unfold nHd
    rw [if_neg (by simpa using c22), Int.add_zero]
  · refine r_iconst hm rfl (k := ?_)
    refine r_istore hm rfl (k := ?_)
    exact c_sayHeading_l g hN ht hR C hu hl1 hl4 (l - 1) 1 _ (by omega) (by omega) (by omega) (by unfold nHd; rw [if_pos (by simpa using c22)])
