/-! rounds: the mathematics -/
/-- how many notes so far, and the page of the last of them -/
def nt1 (x : Tx) (pp : Nat → Nat → Int) (i k : Nat) (s : Int × Int) : Int × Int := if x.2.2.1 0 i k = 2 then (if x.2.2.2 11 = 1 ∧ pp i k ≠ s.2 then 1 else s.1 + 1, pp i k) else s
def ntF (x : Tx) (pp : Nat → Nat → Int) (i : Nat) (s : Int × Int) : Nat → Int × Int
  | 0 => s
  | k + 1 => nt1 x pp i k (ntF x pp i s k)
def ntA (x : Tx) (pp : Nat → Nat → Int) : Nat → Int × Int
  | 0 => (0, 0)
  | i + 1 => ntF x pp i (ntA x pp i) (pcs x i)
def ntK (x : Tx) (pp : Nat → Nat → Int) (i k : Nat) : Int × Int := ntF x pp i (ntA x pp i) k
def nct (x : Tx) (pp : Nat → Nat → Int) (i k : Nat) : Int := if x.2.2.1 0 i k = 2 then (ntK x pp i (k + 1)).1 else 0
theorem ntF_ok {x : Tx} {pp : Nat → Nat → Int} {i B : Nat} {s : Int × Int} (hp : ∀ k, k < pcs x i → 1 ≤ pp i k) (hs : 0 ≤ s.1 ∧ s.1 ≤ B ∧ 0 ≤ s.2) : ∀ k, k ≤ pcs x i → 0 ≤ (ntF x pp i s k).1 ∧ (ntF x pp i s k).1 ≤ ((B + k : Nat) : Int) ∧ 0 ≤ (ntF x pp i s k).2 := by
  intro k
  induction k with
  | zero => intro _; exact hs
  | succ k ih =>
    intro hk
    have h1 := ih (by omega)
    have h2 := hp k (by omega)
    show 0 ≤ (nt1 x pp i k (ntF x pp i s k)).1 ∧ (nt1 x pp i k (ntF x pp i s k)).1 ≤ ((B + (k + 1) : Nat) : Int) ∧ 0 ≤ (nt1 x pp i k (ntF x pp i s k)).2
    unfold nt1
    split
    · refine ⟨?_, ?_, ?_⟩ <;> dsimp only
      · split <;> omega
      · split <;> omega
      · omega
    · omega
theorem ntA_ok {x : Tx} {pp : Nat → Nat → Int} (hp : ∀ i k, i < x.1 → k < pcs x i → 1 ≤ pp i k) : ∀ i, i ≤ x.1 → 0 ≤ (ntA x pp i).1 ∧ (ntA x pp i).1 ≤ (fst x i : Int) ∧ 0 ≤ (ntA x pp i).2 := by
  intro i
  induction i with
  | zero => intro _; exact ⟨Int.le_refl _, Int.le_refl _, Int.le_refl _⟩
  | succ i ih =>
    intro hi
    exact ntF_ok (B := fst x i) (fun k hk => hp i k (by omega) hk) (ih (by omega)) (pcs x i) (Nat.le_refl _)
theorem ntK_ok {x : Tx} {pp : Nat → Nat → Int} (hp : ∀ i k, i < x.1 → k < pcs x i → 1 ≤ pp i k) {i : Nat} (hi : i < x.1) {k : Nat} (hk : k ≤ pcs x i) : 0 ≤ (ntK x pp i k).1 ∧ (ntK x pp i k).1 ≤ ((fst x i + k : Nat) : Int) ∧ 0 ≤ (ntK x pp i k).2 := ntF_ok (fun k hk => hp i k hi hk) (ntA_ok hp i (by omega)) k hk
theorem nct_rng {x : Tx} {pp : Nat → Nat → Int} (hok : okTx x) (hp : ∀ i k, i < x.1 → k < pcs x i → 1 ≤ pp i k) {i : Nat} (hi : i < x.1) {k : Nat} (hk : k < pcs x i) : 0 ≤ nct x pp i k ∧ nct x pp i k ≤ 1300 := by
  have h1 := ntK_ok hp hi (k := k + 1) (by omega)
  have h2 := fst_le hok i (by omega)
  have h3 := pcs_eq hok hi
  have h4 := hok.1
  unfold nct
  split <;> omega
/-- what a call says: sd the numbers, fq the pages of items -/
def scl (sd fq : Nat → Int) (to way pc : Int) : Int := if to = -1 then 2 else if way = 0 then sd to.toNat else if way = 1 then fgs (fq to.toNat) + 1 else if fq to.toNat = pc then 4 else if fq to.toNat - pc = 1 ∨ fq to.toNat - pc = -1 then 9 else 5
/-- what the pieces say after a round with letters lt -/
def nx (x : Tx) (H : Int) (lt : LT) : LT := fun i k => if x.2.2.1 0 i k = 1 then scl (nSaid x) (psf x H lt).2.2.1 (mnt x i k) (x.2.2.1 2 i k) (ppf x H lt i k) else if x.2.2.1 0 i k = 2 then fgs (nct x (ppf x H lt) i k) else x.2.2.1 1 i k
def lt0 (x : Tx) : LT := fun i k => if x.2.2.1 0 i k = 1 then 2 else if x.2.2.1 0 i k = 2 then 1 else x.2.2.1 1 i k
def ltR (x : Tx) (H : Int) : Nat → LT
  | 0 => lt0 x
  | r + 1 => nx x H (ltR x H r)
theorem nHd_rng {u s : Nat → Int} {l : Nat} (hu : ∀ q, 0 ≤ u q ∧ u q ≤ 100) (h4 : l ≤ 4) : 0 ≤ nHd u s l ∧ nHd u s l ≤ 190 := by
  unfold nHd
  have h1 := @sdn_rng (u (l - 1)).toNat (s (1 + l)) (by have := hu (l - 1); omega)
  have h2 := sm_rng (lo := 0) (hi := 21) (f := fun q => sdn (u (q - 1)).toNat (s (1 + q)) + 1) (l - 1) 1 (fun k _ _ => by have := @sdn_rng (u (k - 1)).toNat (s (1 + k)) (by have := hu (k - 1); omega); omega)
  split <;> omega
theorem nSaid_rng {x : Tx} (hok : okTx x) {i : Nat} (hi : i < x.1) : 0 ≤ nSaid x i ∧ nSaid x i ≤ 200 := by
  have h60 := hok.1
  have u := fun j (hj : j ≤ x.1) => (nsN_ok hok j hj).1
  have v := fun j (hj : j ≤ x.1) q => (show 0 ≤ (nsN x j).1 q ∧ (nsN x j).1 q ≤ 100 from ⟨(u j hj q).1, by have := (u j hj q).2; omega⟩)
  have hk := hok.2.1 i hi
  unfold okIt at hk
  have hs := nSec_lt hok hi
  unfold nSaid
  split
  · have := nHd_rng (u := (nsN x (i + 1)).1) (s := x.2.2.2) (l := (x.2.1 2 i).toNat) (v (i + 1) (by omega)) (by omega)
    omega
  · split
    · have h1 := @sdn_rng ((nsN x (i + 1)).1 0).toNat (x.2.2.2 2) (by have := v (i + 1) (by omega) 0; omega)
      have h2 := fgs_rng (nOwn x i)
      split <;> omega
    · split
      · omega
      · rename_i e
        have hq := hok.2.1 (nSec x i).toNat (by omega)
        unfold okIt at hq
        have hz := hs.2.2.2.2 e
        have := nHd_rng (u := (nsN x ((nSec x i).toNat + 1)).1) (s := x.2.2.2) (l := (x.2.1 2 (nSec x i).toNat).toNat) (v _ (by omega)) (by omega)
        omega
theorem mnt_rng {x : Tx} {i k : Nat} : mnt x i k = -1 ∨ (0 ≤ mnt x i k ∧ mnt x i k < x.1) := by
  unfold mnt
  split
  · have := fi_rng (p := fun q => x.2.1 3 q == x.2.2.1 1 i k) x.1 0
    omega
  · left; rfl
theorem scl_rng {sd fq : Nat → Int} {to way pc : Int} (hs : to ≠ -1 → 0 ≤ sd to.toNat ∧ sd to.toNat ≤ 200) : 0 ≤ scl sd fq to way pc ∧ scl sd fq to way pc ≤ 200 := by
  unfold scl
  have h2 := fgs_rng (fq to.toNat)
  split
  · omega
  · rename_i e
    have := hs e
    (repeat' split) <;> omega
theorem nx_ok {x : Tx} {H : Int} {lt : LT} (hok : okTx x) : okLt x (nx x H lt) := by
  intro i k hi hk
  have hz := hok.2.2.1 i k hi (by unfold pcs at hk; omega)
  unfold okPc at hz
  unfold nx
  split
  · refine scl_rng (fun e => ?_)
    have := @mnt_rng x i k
    exact nSaid_rng hok (by omega)
  · have := fgs_rng (nct x (ppf x H lt) i k)
    split <;> omega
theorem ltR_ok {x : Tx} {H : Int} (hok : okTx x) : ∀ r, okLt x (ltR x H r) := by
  intro r
  cases r with
  | zero =>
    intro i k hi hk
    have hz := hok.2.2.1 i k hi (by unfold pcs at hk; omega)
    unfold okPc at hz
    show 0 ≤ lt0 x i k ∧ lt0 x i k ≤ 200
    unfold lt0
    (repeat' split) <;> omega
  | succ r => exact nx_ok hok
/-- two rows of letters differ somewhere -/
def dfB (x : Tx) (f g : LT) : Bool := an (fun i => an (fun k => decide (f i k ≠ g i k)) 0 (pcs x i)) 0 x.1
theorem an_false {p : Nat → Bool} : ∀ (d i : Nat), an p i d = false ↔ ∀ k, i ≤ k → k < i + d → p k = false := by
  intro d
  induction d with
  | zero => intro i; simp [an]; omega
  | succ d ih =>
    intro i
    unfold an
    rw [Bool.or_eq_false_iff, ih (i + 1)]
    constructor
    · intro h k h1 h2
      by_cases e : k = i
      · rw [e]; exact h.1
      · exact h.2 k (by omega) (by omega)
    · intro h
      exact ⟨h i (by omega) (by omega), fun k h1 h2 => h k (by omega) (by omega)⟩
theorem dfB_f {x : Tx} {f g : LT} : dfB x f g = false ↔ ∀ i k, i < x.1 → k < pcs x i → f i k = g i k := by
  unfold dfB
  rw [an_false]
  constructor
  · intro h i k hi hk
    have h1 := h i (by omega) (by omega)
    rw [an_false] at h1
    have h2 := h1 k (by omega) (by omega)
    rw [decide_eq_false_iff_not, Decidable.not_not] at h2
    exact h2
  · intro h i _ hi
    rw [an_false]
    intro k _ hk
    rw [decide_eq_false_iff_not, Decidable.not_not]
    exact h i k (by omega) (by omega)
/-- the last round below j whose letters round r says -/
def lkM (x : Tx) (H : Int) (r : Nat) : Nat → Int
  | 0 => -1
  | j + 1 => if dfB x (ltR x H (r + 1)) (ltR x H j) = false then (j : Int) else lkM x H r j
def lik (x : Tx) (H : Int) (r : Nat) : Int := lkM x H r (r + 1)
theorem lkM_rng {x : Tx} {H : Int} {r : Nat} : ∀ j, -1 ≤ lkM x H r j ∧ lkM x H r j < j := by
  intro j
  induction j with
  | zero => exact ⟨Int.le_refl _, (by decide : (-1 : Int) < ((0 : Nat) : Int))⟩
  | succ j ih =>
    unfold lkM
    split <;> omega
def rnd (x : Tx) (H : Int) : Nat → Nat → Nat
  | 0, r => r
  | d + 1, r => if lik x H r = -1 then rnd x H d (r + 1) else r
/-- the last round -/
def fin (x : Tx) (H : Int) : Nat := rnd x H 11 0
def ocm (x : Tx) (H : Int) (r : Nat) : Int := if lik x H r = r then 0 else if lik x H r = -1 then 2 else 1
def prd (x : Tx) (H : Int) (r : Nat) : Int := if lik x H r = r ∨ lik x H r = -1 then 0 else r + 1 - lik x H r
def pgs (x : Tx) (H : Int) (r : Nat) : Int := if x.1 = 0 then 0 else ((psf x H (ltR x H r)).1 : Int)
theorem rnd_le {x : Tx} {H : Int} : ∀ d r, r ≤ rnd x H d r ∧ rnd x H d r ≤ r + d := by
  intro d
  induction d with
  | zero => intro r; exact ⟨Nat.le_refl _, Nat.le_refl _⟩
  | succ d ih =>
    intro r
    unfold rnd
    have := ih (r + 1)
    split <;> omega
theorem fin_le {x : Tx} {H : Int} : fin x H ≤ 11 := by have := rnd_le (x := x) (H := H) 11 0; unfold fin; omega
