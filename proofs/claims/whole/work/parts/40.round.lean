/-! one round: the mathematics -/
theorem sm_last {f : Nat → Int} : ∀ (d i : Nat), sm f i (d + 1) = sm f i d + f (i + d) := by
  intro d
  induction d with
  | zero => intro i; simp [sm]
  | succ d ih =>
    intro i
    have h1 := ih (i + 1)
    rw [show sm f i (d + 1 + 1) = f i + sm f (i + 1) (d + 1) from rfl, h1, show sm f i (d + 1) = f i + sm f (i + 1) d from rfl, show i + 1 + d = i + (d + 1) by omega]
    omega
def cnt (p : Nat → Bool) : Nat → Nat
  | 0 => 0
  | i + 1 => cnt p i + if p i then 1 else 0
theorem sm_cnt {f : Nat → Int} {p : Nat → Bool} (hf : ∀ i, f i ≤ 1 ∧ (p i = false → f i ≤ 0)) : ∀ d, sm f 0 d ≤ (cnt p d : Int) := by
  intro d
  induction d with
  | zero => exact Int.le_refl _
  | succ d ih =>
    rw [sm_last]
    have h1 := hf d
    show sm f 0 d + f (0 + d) ≤ ((cnt p d + if p d then 1 else 0 : Nat) : Int)
    rw [Nat.zero_add]
    cases hp : p d
    · have := h1.2 hp
      simp
      omega
    · have := h1.1
      simp
      omega
/-- how many items the list i lists -/
def cli (x : Tx) (i : Nat) : Nat := (sm (fun q => if lstB x i q = true then 1 else 0) 0 x.1).toNat
theorem cli_eq {x : Tx} {i : Nat} : (cli x i : Int) = sm (fun q => if lstB x i q = true then 1 else 0) 0 x.1 := by
  have := sm_le (f := fun q => if lstB x i q = true then (1 : Int) else 0) (B := 1) (fun k => by split <;> omega) x.1 0
  unfold cli
  omega
def isA (x : Tx) (i : Nat) : Bool := decide (x.2.1 1 i = 0 ∨ x.2.1 1 i = 2 ∨ x.2.1 1 i = 3)
def isB (x : Tx) (i : Nat) : Bool := decide (x.2.1 1 i = 1)
def isL (x : Tx) (i : Nat) : Bool := decide (4 ≤ x.2.1 1 i)
theorem cli_le {x : Tx} {i : Nat} : cli x i ≤ cnt (isA x) x.1 := by
  have h := sm_cnt (f := fun q => if lstB x i q = true then (1 : Int) else 0) (p := isA x) (fun q => by
    refine ⟨by split <;> omega, fun hp => ?_⟩
    unfold isA at hp
    rw [decide_eq_false_iff_not] at hp
    rw [if_neg (fun z => by unfold lstB at z; rw [decide_eq_true_eq] at z; omega)]
    exact Int.le_refl _) x.1
  have := cli_eq (x := x) (i := i)
  omega
/-- how many lines or figures item i brings at most -/
def cap (x : Tx) (i : Nat) : Nat := if x.2.1 1 i = 1 then pcs x i else if 4 ≤ x.2.1 1 i then cli x i else 1
def TT (x : Tx) : Nat → Nat
  | 0 => 0
  | i + 1 => TT x i + cap x i
theorem TT_mono {x : Tx} : ∀ (d i : Nat), TT x i ≤ TT x (i + d) := by
  intro d
  induction d with
  | zero => intro i; exact Nat.le_refl _
  | succ d ih =>
    intro i
    have h1 := ih i
    show TT x i ≤ TT x (i + d) + cap x (i + d)
    omega
theorem TT_cnt {x : Tx} (hok : okTx x) : ∀ i, i ≤ x.1 → TT x i ≤ 20 * cnt (isB x) i + cnt (isL x) i * cnt (isA x) x.1 + cnt (isA x) i ∧ cnt (isB x) i + cnt (isL x) i + cnt (isA x) i = i := by
  intro i
  induction i with
  | zero => intro _; exact ⟨Nat.zero_le _, rfl⟩
  | succ i ih =>
    intro hi
    obtain ⟨h1, h2⟩ := ih (by omega)
    have hk := hok.2.1 i (by omega)
    unfold okIt at hk
    have hp := pcs_eq hok (i := i) (by omega)
    have hc := cli_le (x := x) (i := i)
    show TT x i + cap x i ≤ 20 * (cnt (isB x) i + if isB x i then 1 else 0) + (cnt (isL x) i + if isL x i then 1 else 0) * cnt (isA x) x.1 + (cnt (isA x) i + if isA x i then 1 else 0) ∧ (cnt (isB x) i + if isB x i then 1 else 0) + (cnt (isL x) i + if isL x i then 1 else 0) + (cnt (isA x) i + if isA x i then 1 else 0) = i + 1
    unfold cap
    by_cases k1 : x.2.1 1 i = 1
    · have e1 : isB x i = true := decide_eq_true k1
      have e2 : isL x i = false := decide_eq_false (by omega)
      have e3 : isA x i = false := decide_eq_false (by omega)
      rw [e1, e2, e3, if_pos k1]
      simp
      omega
    · by_cases k2 : 4 ≤ x.2.1 1 i
      · have e1 : isB x i = false := decide_eq_false k1
        have e2 : isL x i = true := decide_eq_true k2
        have e3 : isA x i = false := decide_eq_false (by omega)
        rw [e1, e2, e3, if_neg k1, if_pos k2]
        simp [Nat.add_mul]
        omega
      · have e1 : isB x i = false := decide_eq_false k1
        have e2 : isL x i = false := decide_eq_false k2
        have e3 : isA x i = true := decide_eq_true (by omega)
        rw [e1, e2, e3, if_neg k1, if_neg k2]
        simp
        omega
theorem num_le : ∀ a, a ≤ 60 → ∀ l, l ≤ 60 → a + l ≤ 60 → 20 * (60 - a - l) + l * a + a ≤ 1200 := by decide +kernel
theorem TT_le {x : Tx} (hok : okTx x) {i : Nat} (hi : i ≤ x.1) : TT x i ≤ 1200 := by
  have h0 := TT_mono (x := x) (x.1 - i) i
  rw [show i + (x.1 - i) = x.1 by omega] at h0
  obtain ⟨h1, h2⟩ := TT_cnt hok x.1 (Nat.le_refl _)
  have h3 := hok.1
  have h4 := num_le (cnt (isA x) x.1) (by omega) (cnt (isL x) x.1) (by omega) (by omega)
  have h5 : cnt (isB x) x.1 ≤ 60 - cnt (isA x) x.1 - cnt (isL x) x.1 := by omega
  have h6 : 20 * cnt (isB x) x.1 ≤ 20 * (60 - cnt (isA x) x.1 - cnt (isL x) x.1) := Nat.mul_le_mul_left 20 h5
  omega
/-- item i comes on its pages; the pages of its pieces -/
def iS (x : Tx) (H : Int) (lt : LT) (i : Nat) (q : PS) : PS × (Nat → Int) :=
  if x.2.1 1 i = 0 then (tk (se (sf (rm x H (hli (x.2.1 2 i) + 2) (if x.2.1 2 i = 1 ∧ x.2.2.2 12 = 1 ∧ q.2.1 q.1 ≠ 0 then tn x H q else q)) i) i) (hli (x.2.1 2 i)), fun _ => 0)
  else if x.2.1 1 i = 1 then ((lls x H i (nli x lt i) (ndi x lt i) q).1, fun k => (lls x H i (nli x lt i) (ndi x lt i) q).2 (loi x lt i k))
  else if x.2.1 1 i = 2 ∨ x.2.1 1 i = 3 then (if q.2.2.2.2.1 = q.2.2.2.2.2.1 ∧ q.2.1 q.1 + x.2.1 2 i ≤ H then tk (se (sf q i) i) (x.2.1 2 i) else wa q i, fun _ => 0)
  else ((lls x H i (cli x i) (fun _ => 1) q).1, fun _ => 0)
def lnc (x : Tx) (lt : LT) (i : Nat) : Int := if x.2.1 1 i = 0 then hli (x.2.1 2 i) else if x.2.1 1 i = 1 then (nli x lt i : Int) else if x.2.1 1 i = 2 ∨ x.2.1 1 i = 3 then x.2.1 2 i else (cli x i : Int)
def ly (x : Tx) (H : Int) (lt : LT) : Nat → PS × (Nat → Nat → Int)
  | 0 => (ps0, fun _ _ => 0)
  | i + 1 => ((iS x H lt i (ly x H lt i).1).1, upf (ly x H lt i).2 i (iS x H lt i (ly x H lt i).1).2)
def psf (x : Tx) (H : Int) (lt : LT) : PS := enN x H 60 (ly x H lt x.1).1
def ppf (x : Tx) (H : Int) (lt : LT) : Nat → Nat → Int := (ly x H lt x.1).2
theorem hli_rng (a : Int) : 1 ≤ hli a ∧ hli a ≤ 3 := by unfold hli; (repeat' split) <;> omega
theorem nli_le {x : Tx} {lt : LT} (hok : okTx x) (hl : okLt x lt) {i : Nat} (hi : i < x.1) : nli x lt i ≤ pcs x i ∧ okNd (ndi x lt i) ∧ ∀ k, k < pcs x i → loi x lt i k < nli x lt i := by
  obtain ⟨h1, h2, h3, h4, h5, h6⟩ := lbN_ok hok hl hi (pcs x i) (Nat.le_refl _)
  have hp := pcs_eq hok hi
  unfold nli
  refine ⟨by split <;> omega, fun l => ?_, fun k hk => ?_⟩
  · have := h3 l
    unfold ndi
    omega
  · rw [if_neg (by omega)]
    have := h6 k hk
    unfold loi
    omega
theorem hd_ok {x : Tx} {H : Int} {T i : Nat} {q : PS} (hH : 8 ≤ H ∧ H ≤ 60) (hi : i ≤ 59) (h : PSok x T i q) {p : Prop} [Decidable p] (hp : p → q.2.1 q.1 ≠ 0) : PSok x T i (if p then tn x H q else q) := by
  split
  · rename_i e
    exact (tn_ok hH h.1 (hp e)).1
  · exact h
theorem iS_ok {x : Tx} {H : Int} {lt : LT} {T i : Nat} {q : PS} (hok : okTx x) (hl : okLt x lt) (hH : 8 ≤ H ∧ H ≤ 60) (hi : i < x.1) (h : PSok x T i q) : PSok x (T + cap x i) (i + 1) (iS x H lt i q).1 ∧ ∀ k, k < pcs x i → 1 ≤ (iS x H lt i q).2 k ∧ (iS x H lt i q).2 k ≤ ((iS x H lt i q).1).1 := by
  have hk := hok.2.1 i hi
  have h60 := hok.1
  unfold okIt at hk
  have hpc := pcs_eq hok hi
  unfold iS cap
  by_cases k0 : x.2.1 1 i = 0
  · rw [if_pos k0, if_neg (by omega), if_neg (by omega)]
    refine ⟨?_, fun k hk2 => by omega⟩
    have a0 := hd_ok (x := x) (H := H) (p := x.2.1 2 i = 1 ∧ x.2.2.2 12 = 1 ∧ q.2.1 q.1 ≠ 0) hH (by omega) h (fun e => e.2.2)
    generalize (if x.2.1 2 i = 1 ∧ x.2.2.2 12 = 1 ∧ q.2.1 q.1 ≠ 0 then tn x H q else q) = q1 at a0
    obtain ⟨a1, a2, a3⟩ := rm_ok (n := hli (x.2.1 2 i) + 2) hH (by omega) a0
    have a4 := hli_rng (x.2.1 2 i)
    dsimp only
    generalize rm x H (hli (x.2.1 2 i) + 2) q1 = q2 at a1 a2 a3
    have a5 := a1.1.2.2.1
    have a6 := a1.1.1
    refine tk_ok (by omega) ?_ (se_ok (sf_ok a1) ?_)
    · show q2.2.1 q2.1 + hli (x.2.1 2 i) ≤ 300
      omega
    · show upf q2.2.2.1 i (q2.1 : Int) i ≠ 0
      rw [upf_eq]
      omega
  · rw [if_neg k0]
    by_cases k1 : x.2.1 1 i = 1
    · rw [if_pos k1, if_pos k1]
      obtain ⟨b1, b2, b3⟩ := nli_le hok hl hi
      obtain ⟨a1, a2⟩ := lls_ok (nl := nli x lt i) hH (by omega) b2 h
      exact ⟨a1.more (by omega), fun k hk2 => a2 _ (b3 k hk2)⟩
    · rw [if_neg k1, if_neg k1]
      by_cases k2 : x.2.1 1 i = 2 ∨ x.2.1 1 i = 3
      · rw [if_pos k2, if_neg (by omega)]
        refine ⟨?_, fun k hk2 => by omega⟩
        by_cases c : q.2.2.2.2.1 = q.2.2.2.2.2.1 ∧ q.2.1 q.1 + x.2.1 2 i ≤ H
        · dsimp only
          rw [if_pos c]
          have a6 := h.1.1
          refine tk_ok (by omega) ?_ (se_ok (sf_ok h) ?_)
          · show q.2.1 q.1 + x.2.1 2 i ≤ 300
            omega
          · show upf q.2.2.1 i (q.1 : Int) i ≠ 0
            rw [upf_eq]
            omega
        · dsimp only
          rw [if_neg c]
          refine wa_ok h ?_ (by omega)
          by_cases c2 : q.2.2.2.2.1 = q.2.2.2.2.2.1
          · have : ¬ q.2.1 q.1 + x.2.1 2 i ≤ H := fun z => c ⟨c2, z⟩
            omega
          · exact h.2 (by have := h.1.2.2.2.2.1; omega)
      · rw [if_neg k2, if_pos (by omega)]
        obtain ⟨a1, a2⟩ := lls_ok (x := x) (nl := cli x i) (nd := fun _ => 1) hH (by omega) (fun _ => ⟨Int.le_refl _, (by decide : (1 : Int) ≤ 101)⟩) h
        exact ⟨a1, fun k hk2 => by omega⟩
theorem ly_ok {x : Tx} {H : Int} {lt : LT} (hok : okTx x) (hl : okLt x lt) (hH : 8 ≤ H ∧ H ≤ 60) : ∀ i, i ≤ x.1 → PSok x (TT x i) i (ly x H lt i).1 ∧ ∀ q k, q < i → k < pcs x q → 1 ≤ (ly x H lt i).2 q k ∧ (ly x H lt i).2 q k ≤ 1250 := by
  intro i
  induction i with
  | zero => intro _; exact ⟨ps0_ok, fun q k hq => absurd hq (Nat.not_lt_zero _)⟩
  | succ i ih =>
    intro hi
    obtain ⟨a1, a2⟩ := ih (by omega)
    obtain ⟨b1, b2⟩ := iS_ok hok hl hH (by omega) a1
    refine ⟨b1, fun q k hq hk => ?_⟩
    show 1 ≤ upf (ly x H lt i).2 i (iS x H lt i (ly x H lt i).1).2 q k ∧ upf (ly x H lt i).2 i (iS x H lt i (ly x H lt i).1).2 q k ≤ 1250
    by_cases e : q = i
    · subst e
      rw [upf_eq]
      have b3 := b2 k hk
      have b4 := b1.rng (TT_le hok hi)
      omega
    · rw [upf_ne e]
      exact a2 q k (by omega) hk
theorem psf_ok {x : Tx} {H : Int} {lt : LT} (hok : okTx x) (hl : okLt x lt) (hH : 8 ≤ H ∧ H ≤ 60) : PSok x (TT x x.1) x.1 (psf x H lt) ∧ (∀ i, i < x.1 → 1 ≤ (psf x H lt).2.2.1 i ∧ (psf x H lt).2.2.1 i ≤ 1250 ∧ 1 ≤ (psf x H lt).2.2.2.1 i) ∧ ¬ (psf x H lt).2.2.2.2.1 < (psf x H lt).2.2.2.2.2.1 := by
  obtain ⟨a1, -⟩ := ly_ok hok hl hH x.1 (Nat.le_refl _)
  have h60 := hok.1
  obtain ⟨b1, b2⟩ := enN_ok hH 60 _ a1 (by have := a1.1.2.2.2.2.2.1; omega)
  refine ⟨b1, fun i hi => ?_, b2⟩
  have b3 := b1.rng (TT_le hok (Nat.le_refl _))
  have b4 := b1.1.2.2.2.2.2.2.2.1 i
  rcases b1.1.2.2.2.2.2.2.2.2.1 i hi with c | ⟨k, k1, k2, -⟩
  · unfold psf
    omega
  · exact absurd (Nat.lt_of_le_of_lt k1 k2) b2
