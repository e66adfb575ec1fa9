/-! lines and pages of one round: the mathematics -/
/-- pieces of item i -/
def pcs (x : Tx) (i : Nat) : Nat := (x.2.1 4 i).toNat
/-- the number of the first piece of item i -/
def fst (x : Tx) : Nat → Nat
  | 0 => 0
  | i + 1 => fst x i + pcs x i
theorem fst_le {x : Tx} (hok : okTx x) : ∀ i, i ≤ x.1 → fst x i ≤ 20 * i := by
  intro i
  induction i with
  | zero => intro _; exact Nat.le_refl _
  | succ i ih =>
    intro hi
    have h1 := ih (by omega)
    have h2 := hok.2.1 i (by omega)
    unfold okIt at h2
    show fst x i + pcs x i ≤ _
    unfold pcs
    omega
theorem fst_mono {x : Tx} : ∀ (d i : Nat), fst x i ≤ fst x (i + d) := by
  intro d
  induction d with
  | zero => intro i; exact Nat.le_refl _
  | succ d ih =>
    intro i
    have h1 := ih i
    show fst x i ≤ fst x (i + d) + pcs x (i + d)
    omega
theorem fst_lt {x : Tx} {i q k : Nat} (h : q < i) (hk : k < pcs x q) : fst x q + k < fst x i := by
  have h1 := fst_mono (x := x) (i - (q + 1)) (q + 1)
  rw [show q + 1 + (i - (q + 1)) = i by omega] at h1
  have h2 : fst x (q + 1) = fst x q + pcs x q := rfl
  omega
abbrev LT : Type := Nat → Nat → Int
def okLt (x : Tx) (lt : LT) : Prop := ∀ i k, i < x.1 → k < pcs x i → 0 ≤ lt i k ∧ lt i k ≤ 200
/-- the line, how far it is filled, what each line needs, the line of each piece -/
abbrev LB : Type := Nat × Int × (Nat → Int) × (Nat → Nat)
def gp (x : Tx) (i k : Nat) : Int := if x.2.2.1 0 i k = 2 ∨ k = 0 then 0 else 1
def nz (x : Tx) (i k : Nat) : Int := if x.2.2.1 0 i k = 2 then x.2.2.1 1 i k else 0
def lb1 (x : Tx) (lt : LT) (i k : Nat) (s : LB) : LB :=
  if 0 < k ∧ x.2.2.2 1 < s.2.1 + gp x i k + lt i k then (s.1 + 1, lt i k, upf s.2.2.1 (s.1 + 1) (s.2.2.1 (s.1 + 1) + nz x i k), upf s.2.2.2 k (s.1 + 1))
  else (s.1, s.2.1 + gp x i k + lt i k, upf s.2.2.1 s.1 (s.2.2.1 s.1 + nz x i k), upf s.2.2.2 k s.1)
def lbN (x : Tx) (lt : LT) (i : Nat) : Nat → LB
  | 0 => (0, 0, fun _ => 1, fun _ => 0)
  | k + 1 => lb1 x lt i k (lbN x lt i k)
theorem lbN_f {x : Tx} {lt : LT} {i k : Nat} (h0 : 0 < k) (h : x.2.2.2 1 < (lbN x lt i k).2.1 + gp x i k + lt i k) : lbN x lt i (k + 1) = ((lbN x lt i k).1 + 1, lt i k, upf (lbN x lt i k).2.2.1 ((lbN x lt i k).1 + 1) ((lbN x lt i k).2.2.1 ((lbN x lt i k).1 + 1) + nz x i k), upf (lbN x lt i k).2.2.2 k ((lbN x lt i k).1 + 1)) := if_pos ⟨h0, h⟩
theorem lbN_n {x : Tx} {lt : LT} {i k : Nat} (h : 0 < k → ¬ x.2.2.2 1 < (lbN x lt i k).2.1 + gp x i k + lt i k) : lbN x lt i (k + 1) = ((lbN x lt i k).1, (lbN x lt i k).2.1 + gp x i k + lt i k, upf (lbN x lt i k).2.2.1 (lbN x lt i k).1 ((lbN x lt i k).2.2.1 (lbN x lt i k).1 + nz x i k), upf (lbN x lt i k).2.2.2 k (lbN x lt i k).1) := if_neg (fun z => h z.1 z.2)
theorem nz_rng {x : Tx} (hok : okTx x) {i k : Nat} (hi : i < x.1) (hk : k < pcs x i) : 0 ≤ nz x i k ∧ nz x i k ≤ 5 := by
  have h := hok.2.2.1 i k hi (by unfold pcs at hk; omega)
  unfold okPc at h
  unfold nz
  split <;> omega
theorem lbN_ok {x : Tx} {lt : LT} (hok : okTx x) (hl : okLt x lt) {i : Nat} (hi : i < x.1) : ∀ k, k ≤ pcs x i → ((lbN x lt i k).1 = 0 ∨ (lbN x lt i k).1 < k) ∧ (0 ≤ (lbN x lt i k).2.1 ∧ (lbN x lt i k).2.1 ≤ 300) ∧ (∀ l, 1 ≤ (lbN x lt i k).2.2.1 l ∧ (lbN x lt i k).2.2.1 l ≤ 1 + 5 * k) ∧ (∀ l, (lbN x lt i k).1 < l → (lbN x lt i k).2.2.1 l = 1) ∧ (k = 0 → (lbN x lt i k).2.1 = 0) ∧ ∀ k2, k2 < k → (lbN x lt i k).2.2.2 k2 ≤ (lbN x lt i k).1 := by
  intro k
  induction k with
  | zero => intro _; exact ⟨Or.inl rfl, ⟨Int.le_refl _, (by decide : (0 : Int) ≤ 300)⟩, fun l => ⟨Int.le_refl _, (by decide : (1 : Int) ≤ 1 + 5 * ((0 : Nat) : Int))⟩, fun l _ => rfl, fun _ => rfl, fun k2 h => absurd h (Nat.not_lt_zero _)⟩
  | succ k ih =>
    intro hk
    obtain ⟨h1, h2, h3, h4, h5, h6⟩ := ih (by omega)
    have hw := hl i k hi (by omega)
    have hz := nz_rng hok hi (k := k) (by omega)
    have hs := hok.2.2.2.2
    unfold okStl at hs
    have hg : 0 ≤ gp x i k ∧ gp x i k ≤ 1 ∧ (k = 0 → gp x i k = 0) := by unfold gp; split <;> omega
    by_cases c : 0 < k ∧ x.2.2.2 1 < (lbN x lt i k).2.1 + gp x i k + lt i k
    · rw [lbN_f c.1 c.2]
      refine ⟨by dsimp only; omega, by dsimp only; omega, fun l => ?_, fun l hl2 => ?_, fun z => by omega, fun k2 hk2 => ?_⟩
      · have := h3 l
        have := h3 ((lbN x lt i k).1 + 1)
        dsimp only
        unfold upf
        split <;> omega
      · dsimp only at hl2 ⊢
        rw [upf_ne (by omega)]
        exact h4 l (by omega)
      · dsimp only
        unfold upf
        split
        · exact Nat.le_refl _
        · have := h6 k2 (by omega)
          omega
    · have c2 : 0 < k → ¬ x.2.2.2 1 < (lbN x lt i k).2.1 + gp x i k + lt i k := fun a b => c ⟨a, b⟩
      rw [lbN_n c2]
      have c3 : 0 ≤ (lbN x lt i k).2.1 + gp x i k + lt i k ∧ (lbN x lt i k).2.1 + gp x i k + lt i k ≤ 300 := by
        by_cases k0 : k = 0
        · have := h5 k0
          omega
        · have := c2 (by omega)
          omega
      refine ⟨by dsimp only; omega, c3, fun l => ?_, fun l hl2 => ?_, fun z => by omega, fun k2 hk2 => ?_⟩
      · have := h3 l
        have := h3 (lbN x lt i k).1
        dsimp only
        unfold upf
        split <;> omega
      · dsimp only at hl2 ⊢
        rw [upf_ne (by omega)]
        exact h4 l hl2
      · dsimp only
        unfold upf
        split
        · exact Nat.le_refl _
        · exact h6 k2 (by omega)
/-- how many lines the pieces of item i make -/
def nli (x : Tx) (lt : LT) (i : Nat) : Nat := if pcs x i = 0 then 0 else (lbN x lt i (pcs x i)).1 + 1
def ndi (x : Tx) (lt : LT) (i : Nat) : Nat → Int := (lbN x lt i (pcs x i)).2.2.1
def loi (x : Tx) (lt : LT) (i : Nat) : Nat → Nat := (lbN x lt i (pcs x i)).2.2.2
/-- one line comes on its page -/
def ll1 (x : Tx) (H : Int) (i nl : Nat) (nd : Nat → Int) (l : Nat) (r : PS × (Nat → Int)) : PS × (Nat → Int) :=
  (tk (if l = 0 then sf (rm x H (if l = 0 ∧ 1 < nl then nd 0 + nd 1 else nd l) r.1) i else rm x H (if l = 0 ∧ 1 < nl then nd 0 + nd 1 else nd l) r.1) (nd l), upf r.2 l ((rm x H (if l = 0 ∧ 1 < nl then nd 0 + nd 1 else nd l) r.1).1 : Int))
def llN (x : Tx) (H : Int) (i nl : Nat) (nd : Nat → Int) (q : PS) : Nat → PS × (Nat → Int)
  | 0 => (sf q i, fun _ => 0)
  | l + 1 => ll1 x H i nl nd l (llN x H i nl nd q l)
def lls (x : Tx) (H : Int) (i nl : Nat) (nd : Nat → Int) (q : PS) : PS × (Nat → Int) := (se (llN x H i nl nd q nl).1 i, (llN x H i nl nd q nl).2)
theorem plc_fp {x : Tx} {H : Int} {i : Nat} : ∀ (d : Nat) (q : PS), q.2.2.1 i ≠ 0 → q.1 ≠ 0 → (plc x H d q).2.2.1 i ≠ 0 ∧ (plc x H d q).1 = q.1 := by
  intro d
  induction d with
  | zero => intro q h _; exact ⟨h, rfl⟩
  | succ d ih =>
    intro q h h0
    by_cases c : q.2.1 q.1 + x.2.1 2 (q.2.2.2.2.2.2 q.2.2.2.2.1) ≤ H
    · rw [plc_go (by omega) c]
      refine ih (pl1 x q) ?_ h0
      show upf q.2.2.1 (q.2.2.2.2.2.2 q.2.2.2.2.1) (q.1 : Int) i ≠ 0
      unfold upf
      split
      · omega
      · exact h
    · rw [plc_no (fun _ => c)]
      exact ⟨h, rfl⟩
theorem tn_fp {x : Tx} {H : Int} {i : Nat} {q : PS} (h : q.2.2.1 i ≠ 0) : (tn x H q).2.2.1 i ≠ 0 := (plc_fp _ (np q) h (Nat.succ_ne_zero _)).1
theorem rmN_fp {x : Tx} {H n : Int} {i : Nat} : ∀ (d : Nat) (q : PS), q.2.2.1 i ≠ 0 → (rmN x H n d q).2.2.1 i ≠ 0 := by
  intro d
  induction d with
  | zero => intro q h; exact h
  | succ d ih =>
    intro q h
    by_cases c : q.2.1 q.1 = 0 ∨ q.2.1 q.1 + n ≤ H
    · rw [rmN_no c]; exact h
    · rw [rmN_go (by omega) c]
      exact ih _ (tn_fp h)
theorem rmN_pg {x : Tx} {H n : Int} {T N : Nat} (hH : 8 ≤ H ∧ H ≤ 60) : ∀ (d : Nat) (q : PS), PSok x T N q → q.1 ≤ (rmN x H n d q).1 := by
  intro d
  induction d with
  | zero => intro q _; exact Nat.le_refl _
  | succ d ih =>
    intro q h
    by_cases c : q.2.1 q.1 = 0 ∨ q.2.1 q.1 + n ≤ H
    · rw [rmN_no c]; exact Nat.le_refl _
    · rw [rmN_go (by omega) c]
      have hu : q.2.1 q.1 ≠ 0 := fun e => c (Or.inl e)
      obtain ⟨a1, a2, -⟩ := tn_ok hH h.1 hu
      have := ih _ a1
      show q.1 ≤ (rmN x H n d (tn x H q)).1
      omega
/-- what the lines of item i need: 1 to 101 each -/
def okNd (nd : Nat → Int) : Prop := ∀ l, 1 ≤ nd l ∧ nd l ≤ 101
theorem llN_ok {x : Tx} {H : Int} {i nl T : Nat} {nd : Nat → Int} {q : PS} (hH : 8 ≤ H ∧ H ≤ 60) (hi : i ≤ 59) (hd : okNd nd) (h : PSok x T i q) : ∀ l, PSok x (T + l) i (llN x H i nl nd q l).1 ∧ ((llN x H i nl nd q l).1).2.2.1 i ≠ 0 ∧ ∀ k, k < l → 1 ≤ (llN x H i nl nd q l).2 k ∧ (llN x H i nl nd q l).2 k ≤ ((llN x H i nl nd q l).1).1 := by
  intro l
  induction l with
  | zero =>
    refine ⟨sf_ok h, ?_, fun k hk => absurd hk (Nat.not_lt_zero _)⟩
    show upf q.2.2.1 i (q.1 : Int) i ≠ 0
    rw [upf_eq]
    have := h.1.1
    omega
  | succ l ih =>
    obtain ⟨a1, a2, a3⟩ := ih
    show PSok x (T + (l + 1)) i (ll1 x H i nl nd l (llN x H i nl nd q l)).1 ∧ ((ll1 x H i nl nd l (llN x H i nl nd q l)).1).2.2.1 i ≠ 0 ∧ ∀ k, k < l + 1 → 1 ≤ (ll1 x H i nl nd l (llN x H i nl nd q l)).2 k ∧ (ll1 x H i nl nd l (llN x H i nl nd q l)).2 k ≤ ((ll1 x H i nl nd l (llN x H i nl nd q l)).1).1
    generalize llN x H i nl nd q l = r at a1 a2 a3
    have hn := hd l
    have h0 := hd 0
    have h1 := hd 1
    obtain ⟨b1, b2, b3⟩ := rm_ok (n := if l = 0 ∧ 1 < nl then nd 0 + nd 1 else nd l) hH hi a1
    have b4 : (rm x H (if l = 0 ∧ 1 < nl then nd 0 + nd 1 else nd l) r.1).2.2.1 i ≠ 0 := rmN_fp 61 _ a2
    have b5 : nd l ≤ (if l = 0 ∧ 1 < nl then nd 0 + nd 1 else nd l) := by
      split
      · rename_i e
        rw [e.1]
        omega
      · omega
    have b6 : r.1.1 ≤ (rm x H (if l = 0 ∧ 1 < nl then nd 0 + nd 1 else nd l) r.1).1 := rmN_pg hH 61 r.1 a1
    unfold ll1
    generalize rm x H (if l = 0 ∧ 1 < nl then nd 0 + nd 1 else nd l) r.1 = s at b1 b2 b3 b4 b6
    have b7 := b1.1.2.2.1
    have b8 := b1.1.1
    by_cases l0 : l = 0
    · rw [if_pos l0]
      refine ⟨?_, ?_, fun k hk => ?_⟩
      · have e := tk_ok (n := nd l) (by omega) (by show s.2.1 s.1 + nd l ≤ 300; omega) (sf_ok (i := i) b1)
        exact e
      · show upf s.2.2.1 i (s.1 : Int) i ≠ 0
        rw [upf_eq]
        omega
      · show 1 ≤ upf r.2 l (s.1 : Int) k ∧ upf r.2 l (s.1 : Int) k ≤ s.1
        rw [show k = l by omega, upf_eq]
        omega
    · rw [if_neg l0]
      refine ⟨?_, b4, fun k hk => ?_⟩
      · have e := tk_ok (n := nd l) (by omega) (by omega) b1
        exact e
      · show 1 ≤ upf r.2 l (s.1 : Int) k ∧ upf r.2 l (s.1 : Int) k ≤ s.1
        by_cases e : k = l
        · rw [e, upf_eq]
          omega
        · rw [upf_ne e]
          have := a3 k (by omega)
          omega
theorem lls_ok {x : Tx} {H : Int} {i nl T : Nat} {nd : Nat → Int} {q : PS} (hH : 8 ≤ H ∧ H ≤ 60) (hi : i ≤ 59) (hd : okNd nd) (h : PSok x T i q) : PSok x (T + nl) (i + 1) (lls x H i nl nd q).1 ∧ ∀ k, k < nl → 1 ≤ (lls x H i nl nd q).2 k ∧ (lls x H i nl nd q).2 k ≤ ((lls x H i nl nd q).1).1 := by
  obtain ⟨a1, a2, a3⟩ := llN_ok (nl := nl) hH hi hd h nl
  exact ⟨se_ok a1 a2, a3⟩
