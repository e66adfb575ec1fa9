/-! pages: what is taken, what stands where, what waits -/
def upf {α : Type} (f : Nat → α) (i : Nat) (v : α) : Nat → α := fun k => if k = i then v else f k
theorem upf_eq {α : Type} {f : Nat → α} {i : Nat} {v : α} : upf f i v i = v := if_pos rfl
theorem upf_ne {α : Type} {f : Nat → α} {i k : Nat} {v : α} (h : k ≠ i) : upf f i v k = f k := if_neg h
theorem putI_fne {h : Hp} {a i b : Nat} {v : Int} (q : b ≠ a) : (putI h a i v).2.1 b = h.2.1 b := funext (fun _ => if_neg (fun z => q z.1))
theorem putI_feq {h : Hp} {a i : Nat} {v : Int} : (putI h a i v).2.1 a = upf (h.2.1 a) i v := funext (fun k => by
  show (if a = a ∧ k = i then v else h.2.1 a k) = if k = i then v else h.2.1 a k
  by_cases e : k = i
  · rw [if_pos ⟨rfl, e⟩, if_pos e]
  · rw [if_neg (fun z => e z.2), if_neg e])
def filF (f : Nat → Int) (lo hi : Nat) (v : Int) : Nat → Int := fun k => if lo ≤ k ∧ k < hi then v else f k
theorem filI_fne {h : Hp} {a lo hi b : Nat} {v : Int} (q : b ≠ a) : (filI h a lo hi v).2.1 b = h.2.1 b := funext (fun _ => if_neg (fun z => q z.1))
theorem filI_feq {h : Hp} {a lo hi : Nat} {v : Int} : (filI h a lo hi v).2.1 a = filF (h.2.1 a) lo hi v := funext (fun k => by
  show (if a = a ∧ lo ≤ k ∧ k < hi then v else h.2.1 a k) = if lo ≤ k ∧ k < hi then v else h.2.1 a k
  by_cases e : lo ≤ k ∧ k < hi
  · rw [if_pos ⟨rfl, e⟩, if_pos e]
  · rw [if_neg (fun z => e z.2), if_neg e])
theorem filF_eq {f : Nat → Int} {lo hi k : Nat} {v : Int} (h : lo ≤ k ∧ k < hi) : filF f lo hi v k = v := if_pos h
theorem filF_ne {f : Nat → Int} {lo hi k : Nat} {v : Int} (h : k < lo ∨ hi ≤ k) : filF f lo hi v k = f k := if_neg (fun z => by omega)
/-- the page, what is taken on each, first and last page of each item (0: none yet), who waits -/
abbrev PS : Type := Nat × (Nat → Int) × (Nat → Int) × (Nat → Int) × Nat × Nat × (Nat → Nat)
/-- one that waits is set -/
def pl1 (x : Tx) (q : PS) : PS := (q.1, upf q.2.1 q.1 (q.2.1 q.1 + x.2.1 2 (q.2.2.2.2.2.2 q.2.2.2.2.1)), upf q.2.2.1 (q.2.2.2.2.2.2 q.2.2.2.2.1) (q.1 : Int), upf q.2.2.2.1 (q.2.2.2.2.2.2 q.2.2.2.2.1) (q.1 : Int), q.2.2.2.2.1 + 1, q.2.2.2.2.2.1, q.2.2.2.2.2.2)
def plc (x : Tx) (H : Int) : Nat → PS → PS
  | 0, q => q
  | d + 1, q => if q.2.1 q.1 + x.2.1 2 (q.2.2.2.2.2.2 q.2.2.2.2.1) ≤ H then plc x H d (pl1 x q) else q
/-- a new page with nothing on it -/
def np (q : PS) : PS := (q.1 + 1, upf q.2.1 (q.1 + 1) 0, q.2.2.1, q.2.2.2.1, q.2.2.2.2.1, q.2.2.2.2.2.1, q.2.2.2.2.2.2)
def tn (x : Tx) (H : Int) (q : PS) : PS := plc x H (q.2.2.2.2.2.1 - q.2.2.2.2.1) (np q)
def rmN (x : Tx) (H n : Int) : Nat → PS → PS
  | 0, q => q
  | d + 1, q => if q.2.1 q.1 = 0 ∨ q.2.1 q.1 + n ≤ H then q else rmN x H n d (tn x H q)
def rm (x : Tx) (H n : Int) (q : PS) : PS := rmN x H n 61 q
def enN (x : Tx) (H : Int) : Nat → PS → PS
  | 0, q => q
  | d + 1, q => if q.2.2.2.2.1 < q.2.2.2.2.2.1 then enN x H d (tn x H q) else q
def tk (q : PS) (n : Int) : PS := (q.1, upf q.2.1 q.1 (q.2.1 q.1 + n), q.2.2.1, q.2.2.2.1, q.2.2.2.2.1, q.2.2.2.2.2.1, q.2.2.2.2.2.2)
def sf (q : PS) (i : Nat) : PS := (q.1, q.2.1, upf q.2.2.1 i (q.1 : Int), q.2.2.2.1, q.2.2.2.2.1, q.2.2.2.2.2.1, q.2.2.2.2.2.2)
def se (q : PS) (i : Nat) : PS := (q.1, q.2.1, q.2.2.1, upf q.2.2.2.1 i (q.1 : Int), q.2.2.2.2.1, q.2.2.2.2.2.1, q.2.2.2.2.2.2)
def wa (q : PS) (i : Nat) : PS := (q.1, q.2.1, q.2.2.1, q.2.2.2.1, q.2.2.2.2.1, q.2.2.2.2.2.1 + 1, upf q.2.2.2.2.2.2 q.2.2.2.2.2.1 i)
theorem plc_go {x : Tx} {H : Int} {d : Nat} {q : PS} (h : 0 < d) (c : q.2.1 q.1 + x.2.1 2 (q.2.2.2.2.2.2 q.2.2.2.2.1) ≤ H) : plc x H d q = plc x H (d - 1) (pl1 x q) := by
  obtain ⟨e, rfl⟩ : ∃ e, d = e + 1 := ⟨d - 1, by omega⟩
  show (if _ then _ else _) = _
  rw [if_pos c]
  rfl
theorem plc_no {x : Tx} {H : Int} {d : Nat} {q : PS} (c : 0 < d → ¬ q.2.1 q.1 + x.2.1 2 (q.2.2.2.2.2.2 q.2.2.2.2.1) ≤ H) : plc x H d q = q := by
  rcases d with _ | e
  · rfl
  · show (if _ then _ else _) = _
    rw [if_neg (c (by omega))]
theorem rmN_go {x : Tx} {H n : Int} {d : Nat} {q : PS} (h : 0 < d) (c : ¬ (q.2.1 q.1 = 0 ∨ q.2.1 q.1 + n ≤ H)) : rmN x H n d q = rmN x H n (d - 1) (tn x H q) := by
  obtain ⟨e, rfl⟩ : ∃ e, d = e + 1 := ⟨d - 1, by omega⟩
  show (if _ then _ else _) = _
  rw [if_neg c]
  rfl
theorem rmN_no {x : Tx} {H n : Int} {d : Nat} {q : PS} (c : q.2.1 q.1 = 0 ∨ q.2.1 q.1 + n ≤ H) : rmN x H n d q = q := by
  rcases d with _ | e
  · rfl
  · show (if _ then _ else _) = _
    rw [if_pos c]
theorem enN_go {x : Tx} {H : Int} {d : Nat} {q : PS} (h : 0 < d) (c : q.2.2.2.2.1 < q.2.2.2.2.2.1) : enN x H d q = enN x H (d - 1) (tn x H q) := by
  obtain ⟨e, rfl⟩ : ∃ e, d = e + 1 := ⟨d - 1, by omega⟩
  show (if _ then _ else _) = _
  rw [if_pos c]
  rfl
theorem enN_no {x : Tx} {H : Int} {d : Nat} {q : PS} (c : ¬ q.2.2.2.2.1 < q.2.2.2.2.2.1) : enN x H d q = q := by
  rcases d with _ | e
  · rfl
  · show (if _ then _ else _) = _
    rw [if_neg c]
def ind0 (z : Int) : Nat := if z = 0 then 0 else 1
/-- items below N are set or wait; T things at most were set or wait -/
def PSw (x : Tx) (T N : Nat) (q : PS) : Prop := 1 ≤ q.1 ∧ 0 ≤ q.2.1 q.1 ∧ q.2.1 q.1 ≤ 300 ∧ q.1 + ind0 (q.2.1 q.1) + (q.2.2.2.2.2.1 - q.2.2.2.2.1) ≤ 1 + T ∧ q.2.2.2.2.1 ≤ q.2.2.2.2.2.1 ∧ q.2.2.2.2.2.1 ≤ N ∧ (∀ k, k < q.2.2.2.2.2.1 → q.2.2.2.2.2.2 k < N ∧ 1 ≤ x.2.1 2 (q.2.2.2.2.2.2 k) ∧ x.2.1 2 (q.2.2.2.2.2.2 k) ≤ 8) ∧ (∀ i, 0 ≤ q.2.2.1 i ∧ q.2.2.1 i ≤ q.1 ∧ 0 ≤ q.2.2.2.1 i ∧ q.2.2.2.1 i ≤ q.1) ∧ (∀ i, i < N → (q.2.2.1 i ≠ 0 ∧ q.2.2.2.1 i ≠ 0) ∨ ∃ k, q.2.2.2.2.1 ≤ k ∧ k < q.2.2.2.2.2.1 ∧ q.2.2.2.2.2.2 k = i) ∧ ∀ i, N ≤ i → q.2.2.2.1 i = 0
def PSok (x : Tx) (T N : Nat) (q : PS) : Prop := PSw x T N q ∧ (q.2.2.2.2.1 < q.2.2.2.2.2.1 → q.2.1 q.1 ≠ 0)
theorem pl1_ok {x : Tx} {H : Int} {T N : Nat} {q : PS} (hH : 8 ≤ H ∧ H ≤ 60) (h : PSw x T N q) (hw : q.2.2.2.2.1 < q.2.2.2.2.2.1) (c : q.2.1 q.1 + x.2.1 2 (q.2.2.2.2.2.2 q.2.2.2.2.1) ≤ H) : PSw x T N (pl1 x q) := by
  obtain ⟨h1, h2, h3, h4, h5, h6, h7, h8, h9, h10⟩ := h
  obtain ⟨a1, a2, a3⟩ := h7 _ hw
  have e : (pl1 x q).2.1 (pl1 x q).1 = q.2.1 q.1 + x.2.1 2 (q.2.2.2.2.2.2 q.2.2.2.2.1) := upf_eq
  unfold PSw
  rw [e]
  refine ⟨h1, by omega, by omega, ?_, ?_, h6, h7, fun i => ?_, fun i hi => ?_, fun i hi => (upf_ne (by omega)).trans (h10 i hi)⟩
  · show q.1 + ind0 _ + (q.2.2.2.2.2.1 - (q.2.2.2.2.1 + 1)) ≤ _
    unfold ind0 at h4 ⊢
    rw [if_neg (by omega)]
    split at h4 <;> omega
  · show q.2.2.2.2.1 + 1 ≤ q.2.2.2.2.2.1
    omega
  · have := h8 i
    show 0 ≤ upf q.2.2.1 (q.2.2.2.2.2.2 q.2.2.2.2.1) (q.1 : Int) i ∧ upf q.2.2.1 (q.2.2.2.2.2.2 q.2.2.2.2.1) (q.1 : Int) i ≤ q.1 ∧ 0 ≤ upf q.2.2.2.1 (q.2.2.2.2.2.2 q.2.2.2.2.1) (q.1 : Int) i ∧ upf q.2.2.2.1 (q.2.2.2.2.2.2 q.2.2.2.2.1) (q.1 : Int) i ≤ q.1
    unfold upf
    split <;> omega
  · show (upf q.2.2.1 (q.2.2.2.2.2.2 q.2.2.2.2.1) (q.1 : Int) i ≠ 0 ∧ upf q.2.2.2.1 (q.2.2.2.2.2.2 q.2.2.2.2.1) (q.1 : Int) i ≠ 0) ∨ ∃ k, q.2.2.2.2.1 + 1 ≤ k ∧ k < q.2.2.2.2.2.1 ∧ q.2.2.2.2.2.2 k = i
    by_cases hi2 : i = q.2.2.2.2.2.2 q.2.2.2.2.1
    · left
      rw [hi2, upf_eq, upf_eq]
      omega
    · rw [upf_ne hi2, upf_ne hi2]
      rcases h9 i hi with h9 | ⟨k, k1, k2, k3⟩
      · left; exact h9
      · right
        refine ⟨k, ?_, k2, k3⟩
        rcases Nat.eq_or_lt_of_le k1 with e | e
        · exact absurd (by rw [e, k3]) hi2
        · omega
theorem plc_ok {x : Tx} {H : Int} {T N : Nat} (hH : 8 ≤ H ∧ H ≤ 60) : ∀ (d : Nat) (q : PS), PSw x T N q → d = q.2.2.2.2.2.1 - q.2.2.2.2.1 → PSw x T N (plc x H d q) ∧ (plc x H d q).1 = q.1 ∧ (plc x H d q).2.2.2.2.2.1 = q.2.2.2.2.2.1 ∧ (plc x H d q).2.2.2.2.2.2 = q.2.2.2.2.2.2 ∧ q.2.2.2.2.1 ≤ (plc x H d q).2.2.2.2.1 ∧ q.2.1 q.1 ≤ (plc x H d q).2.1 q.1 := by
  intro d
  induction d with
  | zero => intro q h _; exact ⟨h, rfl, rfl, rfl, Nat.le_refl _, Int.le_refl _⟩
  | succ d ih =>
    intro q h hd
    by_cases c : q.2.1 q.1 + x.2.1 2 (q.2.2.2.2.2.2 q.2.2.2.2.1) ≤ H
    · have e := plc_go (x := x) (H := H) (d := d + 1) (q := q) (by omega) c
      rw [e]
      obtain ⟨a1, a2, a3, a4, a5, a6⟩ := ih (pl1 x q) (pl1_ok hH h (by omega) c) (by show d = q.2.2.2.2.2.1 - (q.2.2.2.2.1 + 1); omega)
      have b1 := (h.2.2.2.2.2.2.1 q.2.2.2.2.1 (by omega)).2.1
      have b2 : (pl1 x q).2.1 (pl1 x q).1 = q.2.1 q.1 + x.2.1 2 (q.2.2.2.2.2.2 q.2.2.2.2.1) := upf_eq
      rw [b2] at a6
      have a7 : q.2.2.2.2.1 + 1 ≤ (plc x H d (pl1 x q)).2.2.2.2.1 := a5
      exact ⟨a1, a2, a3, a4, by show q.2.2.2.2.1 ≤ (plc x H d (pl1 x q)).2.2.2.2.1; omega, by show q.2.1 q.1 ≤ (plc x H d (pl1 x q)).2.1 q.1; exact Int.le_trans (by omega) a6⟩
    · rw [plc_no (fun _ => c)]
      exact ⟨h, rfl, rfl, rfl, Nat.le_refl _, Int.le_refl _⟩
theorem np_ok {x : Tx} {T N : Nat} {q : PS} (h : PSw x T N q) (hu : q.2.1 q.1 ≠ 0) : PSw x T N (np q) := by
  obtain ⟨h1, h2, h3, h4, h5, h6, h7, h8, h9, h10⟩ := h
  have e : (np q).2.1 (np q).1 = 0 := upf_eq
  unfold PSw
  rw [e]
  refine ⟨by show 1 ≤ q.1 + 1; omega, by omega, by omega, ?_, h5, h6, h7, fun i => ?_, h9, h10⟩
  · show q.1 + 1 + ind0 0 + (q.2.2.2.2.2.1 - q.2.2.2.2.1) ≤ 1 + T
    unfold ind0 at h4 ⊢
    rw [if_neg hu] at h4
    rw [if_pos rfl]
    omega
  · have := h8 i
    show 0 ≤ q.2.2.1 i ∧ q.2.2.1 i ≤ ((q.1 + 1 : Nat) : Int) ∧ 0 ≤ q.2.2.2.1 i ∧ q.2.2.2.1 i ≤ ((q.1 + 1 : Nat) : Int)
    omega
theorem tn_ok {x : Tx} {H : Int} {T N : Nat} {q : PS} (hH : 8 ≤ H ∧ H ≤ 60) (h : PSw x T N q) (hu : q.2.1 q.1 ≠ 0) : PSok x T N (tn x H q) ∧ (tn x H q).1 = q.1 + 1 ∧ (tn x H q).2.2.2.2.2.1 = q.2.2.2.2.2.1 ∧ (tn x H q).2.2.2.2.2.2 = q.2.2.2.2.2.2 ∧ (q.2.2.2.2.1 < q.2.2.2.2.2.1 → q.2.2.2.2.1 < (tn x H q).2.2.2.2.1) ∧ (q.2.2.2.2.1 = q.2.2.2.2.2.1 → (tn x H q).2.1 (tn x H q).1 = 0 ∧ (tn x H q).2.2.2.2.1 = q.2.2.2.2.2.1) := by
  obtain ⟨a1, a2, a3, a4, a5, a6⟩ := plc_ok hH (q.2.2.2.2.2.1 - q.2.2.2.2.1) (np q) (np_ok h hu) rfl
  have e0 : (np q).2.1 (np q).1 = 0 := upf_eq
  refine ⟨⟨a1, ?_⟩, a2, a3, a4, ?_, ?_⟩
  · intro _
    by_cases hw : q.2.2.2.2.1 < q.2.2.2.2.2.1
    · have b := h.2.2.2.2.2.2.1 q.2.2.2.2.1 hw
      have c : (np q).2.1 (np q).1 + x.2.1 2 ((np q).2.2.2.2.2.2 (np q).2.2.2.2.1) ≤ H := by rw [e0]; show 0 + x.2.1 2 (q.2.2.2.2.2.2 q.2.2.2.2.1) ≤ H; omega
      have e := plc_go (x := x) (H := H) (d := q.2.2.2.2.2.1 - q.2.2.2.2.1) (q := np q) (by omega) c
      have f : tn x H q = plc x H (q.2.2.2.2.2.1 - q.2.2.2.2.1 - 1) (pl1 x (np q)) := e
      obtain ⟨-, z2, -, -, -, z6⟩ := plc_ok hH (q.2.2.2.2.2.1 - q.2.2.2.2.1 - 1) (pl1 x (np q)) (pl1_ok hH (np_ok h hu) hw c) (by show _ = q.2.2.2.2.2.1 - (q.2.2.2.2.1 + 1); omega)
      have b2 : (pl1 x (np q)).2.1 (pl1 x (np q)).1 = (np q).2.1 (np q).1 + x.2.1 2 ((np q).2.2.2.2.2.2 (np q).2.2.2.2.1) := upf_eq
      rw [b2, e0] at z6
      have b3 : x.2.1 2 ((np q).2.2.2.2.2.2 (np q).2.2.2.2.1) = x.2.1 2 (q.2.2.2.2.2.2 q.2.2.2.2.1) := rfl
      rw [b3] at z6
      rw [f, z2]
      have z7 : 0 + x.2.1 2 (q.2.2.2.2.2.2 q.2.2.2.2.1) ≤ (plc x H (q.2.2.2.2.2.1 - q.2.2.2.2.1 - 1) (pl1 x (np q))).2.1 (pl1 x (np q)).1 := z6
      omega
    · exfalso
      rename_i hw2
      have a5' : q.2.2.2.2.1 ≤ (tn x H q).2.2.2.2.1 := a5
      have a3' : (tn x H q).2.2.2.2.2.1 = q.2.2.2.2.2.1 := a3
      omega
  · intro hw
    have b := h.2.2.2.2.2.2.1 q.2.2.2.2.1 hw
    have c : (np q).2.1 (np q).1 + x.2.1 2 ((np q).2.2.2.2.2.2 (np q).2.2.2.2.1) ≤ H := by rw [e0]; show 0 + x.2.1 2 (q.2.2.2.2.2.2 q.2.2.2.2.1) ≤ H; omega
    have e := plc_go (x := x) (H := H) (d := q.2.2.2.2.2.1 - q.2.2.2.2.1) (q := np q) (by omega) c
    have f : tn x H q = plc x H (q.2.2.2.2.2.1 - q.2.2.2.2.1 - 1) (pl1 x (np q)) := e
    obtain ⟨-, -, -, -, z5, -⟩ := plc_ok hH (q.2.2.2.2.2.1 - q.2.2.2.2.1 - 1) (pl1 x (np q)) (pl1_ok hH (np_ok h hu) hw c) (by show _ = q.2.2.2.2.2.1 - (q.2.2.2.2.1 + 1); omega)
    rw [f]
    have z7 : q.2.2.2.2.1 + 1 ≤ (plc x H (q.2.2.2.2.2.1 - q.2.2.2.2.1 - 1) (pl1 x (np q))).2.2.2.2.1 := z5
    omega
  · intro hw
    have f : tn x H q = np q := by
      unfold tn
      rw [hw, Nat.sub_self]
      rfl
    rw [f]
    exact ⟨e0, hw⟩
