/-! numbers: one fold over the items -/
/-- running counts of levels 1 to 4 (places 0 to 3), figures, tables, the place of the heading -/
abbrev NS : Type := (Nat → Int) × Int × Int × Int
def nsS (x : Tx) (i : Nat) (s : NS) : NS :=
  if x.2.1 1 i = 0 then (fun l => if (l : Int) = x.2.1 2 i - 1 then s.1 l + 1 else if (l : Int) < x.2.1 2 i - 1 then s.1 l else 0, if x.2.1 2 i = 1 ∧ x.2.2.2 10 = 1 then 0 else s.2.1, if x.2.1 2 i = 1 ∧ x.2.2.2 10 = 1 then 0 else s.2.2.1, (i : Int))
  else if x.2.1 1 i = 2 then (s.1, s.2.1 + 1, s.2.2.1, s.2.2.2) else if x.2.1 1 i = 3 then (s.1, s.2.1, s.2.2.1 + 1, s.2.2.2) else s
def nsN (x : Tx) : Nat → NS
  | 0 => (fun _ => 0, 0, 0, -1)
  | i + 1 => nsS x i (nsN x i)
def nOwn (x : Tx) (i : Nat) : Int := if x.2.1 1 i = 0 then (nsN x (i + 1)).1 (x.2.1 2 i - 1).toNat else if x.2.1 1 i = 2 then (nsN x (i + 1)).2.1 else if x.2.1 1 i = 3 then (nsN x (i + 1)).2.2.1 else 0
def nSec (x : Tx) (i : Nat) : Int := (nsN x (i + 1)).2.2.2
def nLen (x : Tx) (i : Nat) : Int := if nSec x i = -1 then 1 else x.2.1 2 (nSec x i).toNat
def nRow (x : Tx) (i k : Nat) : Int := if (k : Int) < nLen x i then (nsN x (i + 1)).1 k else -1
/-- what a heading of level l is said with, by running counts u and the style s -/
def nHd (u : Nat → Int) (s : Nat → Int) (l : Nat) : Int := sdn (u (l - 1)).toNat (s (1 + l)) + if s (5 + l) = 1 then sm (fun q => sdn (u (q - 1)).toNat (s (1 + q)) + 1) 1 (l - 1) else 0
def nSaid (x : Tx) (i : Nat) : Int := if x.2.1 1 i = 0 then nHd (nsN x (i + 1)).1 x.2.2.2 (x.2.1 2 i).toNat
  else if x.2.1 1 i = 2 ∨ x.2.1 1 i = 3 then (if x.2.2.2 10 = 1 then sdn ((nsN x (i + 1)).1 0).toNat (x.2.2.2 2) + 1 else 0) + fgs (nOwn x i)
  else if nSec x i = -1 then 1 else nHd (nsN x ((nSec x i).toNat + 1)).1 x.2.2.2 (x.2.1 2 (nSec x i).toNat).toNat
theorem nsN_ok {x : Tx} (hok : okTx x) : ∀ i, i ≤ x.1 → (∀ l, 0 ≤ (nsN x i).1 l ∧ (nsN x i).1 l ≤ i) ∧ (0 ≤ (nsN x i).2.1 ∧ (nsN x i).2.1 ≤ i) ∧ (0 ≤ (nsN x i).2.2.1 ∧ (nsN x i).2.2.1 ≤ i) ∧ (nsN x i).2.2.2 < i ∧ ((nsN x i).2.2.2 = -1 ∨ (0 ≤ (nsN x i).2.2.2 ∧ x.2.1 1 (nsN x i).2.2.2.toNat = 0)) := by
  intro i
  induction i with
  | zero => intro _; simp [nsN]
  | succ i ih =>
    intro hi
    obtain ⟨h1, h2, h3, h4, h5⟩ := ih (by omega)
    have e : nsN x (i + 1) = nsS x i (nsN x i) := rfl
    rw [e]
    unfold nsS
    split
    · rename_i hk
      refine ⟨fun l => ?_, ?_, ?_, ?_, ?_⟩
      · have := h1 l
        dsimp only
        split
        · omega
        · split <;> omega
      · dsimp only; split <;> omega
      · dsimp only; split <;> omega
      · dsimp only; omega
      · dsimp only; right; exact ⟨by omega, by simpa using hk⟩
    · split
      · refine ⟨fun l => ?_, ?_, ?_, ?_, ?_⟩ <;> dsimp only
        · have := h1 l; omega
        · omega
        · omega
        · omega
        · exact h5
      · split
        · refine ⟨fun l => ?_, ?_, ?_, ?_, ?_⟩ <;> dsimp only
          · have := h1 l; omega
          · omega
          · omega
          · omega
          · exact h5
        · refine ⟨fun l => ?_, ?_, ?_, ?_, ?_⟩
          · have := h1 l; omega
          · omega
          · omega
          · omega
          · exact h5
def isN (n : Nat) : Prop := n = 275 ∨ n = 308 ∨ n = 333
theorem GG.nm {L : Nat} {h : Hp} {n : Nat} (g : GG L h) (hn : isN n) : h.1[n]? = some (4, 7) ∧ h.1[n + 1]? = some (100, 60) ∧ h.1[n + 2]? = some (100, 60) ∧ h.1[n + 3]? = some (100, 60) ∧ h.1[n + 4]? = some (100, 240) ∧ h.1[n + 5]? = some (100, 4) ∧ h.2.2.1 n 0 = some (n + 1) ∧ h.2.2.1 n 1 = some (n + 2) ∧ h.2.2.1 n 2 = some (n + 3) ∧ h.2.2.1 n 3 = some (n + 4) ∧ h.2.2.1 n 4 = some (n + 5) ∧ 28 ≤ n := by
  rcases hn with rfl | rfl | rfl <;> refine ⟨?_, ?_, ?_, ?_, ?_, ?_, g.2 _ _ _ rfl, g.2 _ _ _ rfl, g.2 _ _ _ rfl, g.2 _ _ _ rfl, g.2 _ _ _ rfl, by omega⟩ <;> (rw [g.1]; rfl)
theorem putI_sh {h : Hp} {a i : Nat} {v : Int} : (putI h a i v).1 = h.1 := rfl
theorem putI_rf {h : Hp} {a i : Nat} {v : Int} : (putI h a i v).2.2 = h.2.2 := rfl
theorem putI_ne {h : Hp} {a i b k : Nat} {v : Int} (q : b ≠ a ∨ k ≠ i) : (putI h a i v).2.1 b k = h.2.1 b k := if_neg (fun z => by omega)
theorem putI_eq {h : Hp} {a i : Nat} {v : Int} : (putI h a i v).2.1 a i = v := if_pos ⟨rfl, rfl⟩
theorem c_countHeading {L : Nat} {h : Hp} {n : Nat} (g : GG L h) (hN : isN n) {l : Nat} {z : Int} (h1 : 1 ≤ l) (h4 : l ≤ 4) (hz : z = 0 ∨ z = 1) (hu : ∀ q, q < 4 → 0 ≤ h.2.1 (n + 5) q ∧ h.2.1 (n + 5) q ≤ 100) : RN 35 0 [some (.inr (.inr (some (n)))), some (.inl (l : Int)), some (.inl z)] [] h 0 0 (fun v h2 => h2 = (if l = 1 ∧ z = 1 then putI (putI (filI (putI h (n + 5) (l - 1) (h.2.1 (n + 5) (l - 1) + 1)) (n + 5) l 4 0) n 5 0) n 6 0 else filI (putI h (n + 5) (l - 1) (h.2.1 (n + 5) (l - 1) + 1)) (n + 5) l 4 0) ∧ v = none) := by
  obtain ⟨N0, N1, N2, N3, N4, N5, Q0, Q1, Q2, Q3, Q4, N28⟩ := g.nm hN
  have hm : mrec 35 = some nM35 := rfl
  refine r_aload_n hm rfl (k := ?_)
  refine r_getR (hm := hm) (hf := rfl) (hd := rfl) (hs := (by first | assumption | exact N5 | exact N4 | exact N3 | exact N2 | exact N1 | exact N0)) (hv := (by first | assumption | exact Q0 | exact Q1 | exact Q2 | exact Q3 | exact Q4 | rfl)) (k := ?_)
  refine r_iload_n hm rfl (k := ?_)
  refine r_iconst hm rfl (k := ?_)
  refine r_isub hm rfl (hr := (by omega)) (k := ?_)
  refine r_dup2 hm rfl (k := ?_)
  refine r_iald (hm := hm) (hf := rfl) (hs := (by first | assumption | exact N5 | exact N4 | exact N3 | exact N2 | exact N1 | exact N0)) (kk := l - 1) (hi := by omega) (hn := (by omega)) (hv := (by first | assumption | exact Q0 | exact Q1 | exact Q2 | exact Q3 | exact Q4 | rfl)) (k := ?_)
  have hr9 := hu (l - 1) (by omega)
  refine r_iconst hm rfl (k := ?_)
  refine r_iadd hm rfl (hr := (by omega)) (k := ?_)
  refine r_iast (hm := hm) (hf := rfl) (h28 := (by omega)) (hs := (by first | assumption | exact N5 | exact N4 | exact N3 | exact N2 | exact N1 | exact N0)) (kk := l - 1) (hi := by omega) (hn := (by omega)) (k := ?_)
  refine r_aload_n hm rfl (k := ?_)
  refine r_getR (hm := hm) (hf := rfl) (hd := rfl) (hs := (by first | assumption | exact N5 | exact N4 | exact N3 | exact N2 | exact N1 | exact N0)) (hv := (by first | assumption | exact Q0 | exact Q1 | exact Q2 | exact Q3 | exact Q4 | rfl)) (k := ?_)
  refine r_iload_n hm rfl (k := ?_)
  refine r_iconst hm rfl (k := ?_)
  refine r_iconst hm rfl (k := ?_)
  refine r_calls (j2 := 6) hm rfl rfl rfl rfl rfl rfl (Nat.le_of_ble_eq_true rfl) (Nat.le_of_ble_eq_true rfl) rfl ⟨Nat.le_of_ble_eq_true rfl, Nat.le_of_ble_eq_true rfl, Nat.le_of_ble_eq_true rfl, Nat.le_of_ble_eq_true rfl, Nat.le_of_ble_eq_true rfl⟩ rfl (j_fill4 (n := 4) (hi := 4) (lo := l) (by exact N5) (by omega) (by omega) (by omega) (by omega)) (fun v9 h9 p9 => ?_)
  obtain ⟨e1, e2⟩ := p9
  subst e2
  subst e1
  change RN 35 22 _ _ _ 0 0 _
  dsimp only [Option.toList, List.nil_append]
  refine r_iload_n hm rfl (k := ?_)
  refine r_iconst hm rfl (k := ?_)
  refine r_icmp_ne (t := 41) hm rfl rfl (fun c24 => ?_) (fun c24 => ?_)
  · refine r_return hm rfl rfl (Nat.le_of_ble_eq_true rfl) (Nat.le_of_ble_eq_true rfl) ?_
    exact ⟨by first | (rw [if_pos (by omega)]; done) | (rw [if_neg (by omega)]; done), rfl⟩
  · refine r_iload_n hm rfl (k := ?_)
    refine r_if_eq (t := 41) hm rfl rfl (fun c28 => ?_) (fun c28 => ?_)
    · refine r_return hm rfl rfl (Nat.le_of_ble_eq_true rfl) (Nat.le_of_ble_eq_true rfl) ?_
      exact ⟨by first | (rw [if_pos (by omega)]; done) | (rw [if_neg (by omega)]; done), rfl⟩
    · refine r_aload_n hm rfl (k := ?_)
      refine r_iconst hm rfl (k := ?_)
      refine r_putI (hm := hm) (hf := rfl) (hd := rfl) (hs := (by first | assumption | exact N5 | exact N4 | exact N3 | exact N2 | exact N1 | exact N0)) (hfin := Or.inl rfl) (hz := fun q9 => absurd q9 (by decide)) (k := ?_)
      refine r_aload_n hm rfl (k := ?_)
      refine r_iconst hm rfl (k := ?_)
      refine r_putI (hm := hm) (hf := rfl) (hd := rfl) (hs := (by first | assumption | exact N5 | exact N4 | exact N3 | exact N2 | exact N1 | exact N0)) (hfin := Or.inl rfl) (hz := fun q9 => absurd q9 (by decide)) (k := ?_)
      refine r_return hm rfl rfl (Nat.le_of_ble_eq_true rfl) (Nat.le_of_ble_eq_true rfl) ?_
      exact ⟨by first | (rw [if_pos (by omega)]; done) | (rw [if_neg (by omega)]; done), rfl⟩
