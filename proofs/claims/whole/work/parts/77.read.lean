/-! the style read: tokens, and the reader as functions -/
def srt (z : Int) : Int := if 97 ≤ z ∧ z ≤ 122 then 1 else if 48 ≤ z ∧ z ≤ 57 then 2 else if z = 59 then 3 else 4
theorem srt_rng {z : Int} : 1 ≤ srt z ∧ srt z ≤ 4 := by unfold srt; split <;> (try split) <;> (try split) <;> omega
theorem srt1 {z : Int} : srt z = 1 ↔ 97 ≤ z ∧ z ≤ 122 := by unfold srt; split <;> (try split) <;> (try split) <;> omega
theorem srt2 {z : Int} : srt z = 2 ↔ 48 ≤ z ∧ z ≤ 57 := by unfold srt; split <;> (try split) <;> (try split) <;> omega
theorem srt3 {z : Int} : srt z = 3 ↔ z = 59 := by unfold srt; split <;> (try split) <;> (try split) <;> omega
def skN (b : Nat → Int) : Nat → Nat → Nat
  | 0, p => p
  | d + 1, p => if b p = 32 then skN b d (p + 1) else p
/-- behind the spaces -/
def sk (b : Nat → Int) (n p : Nat) : Nat := skN b (n - p) p
theorem skN_rng {b : Nat → Int} : ∀ d p, p ≤ skN b d p ∧ skN b d p ≤ p + d ∧ (skN b d p < p + d → b (skN b d p) ≠ 32) := by
  intro d
  induction d with
  | zero => intro p; show p ≤ p ∧ p ≤ p + 0 ∧ (p < p + 0 → _); exact ⟨by omega, by omega, fun z => by omega⟩
  | succ d ih =>
    intro p
    unfold skN
    by_cases c : b p = 32
    · rw [if_pos c]
      obtain ⟨i1, i2, i3⟩ := ih (p + 1)
      exact ⟨by omega, by omega, fun z => i3 (by omega)⟩
    · rw [if_neg c]
      exact ⟨by omega, by omega, fun _ => c⟩
theorem sk_rng {b : Nat → Int} {n p : Nat} (h : p ≤ n) : p ≤ sk b n p ∧ sk b n p ≤ n ∧ (sk b n p < n → b (sk b n p) ≠ 32) := by
  obtain ⟨i1, i2, i3⟩ := skN_rng (b := b) (n - p) p
  unfold sk
  exact ⟨i1, by omega, fun z => i3 (by omega)⟩
theorem sk_go {b : Nat → Int} {n p : Nat} (h : p < n) (c : b p = 32) : sk b n p = sk b n (p + 1) := by
  unfold sk
  obtain ⟨q, hq⟩ : ∃ q, n - p = q + 1 := ⟨n - p - 1, by omega⟩
  rw [hq, show n - (p + 1) = q by omega]
  exact if_pos c
theorem sk_st {b : Nat → Int} {n p : Nat} (c : p < n → b p ≠ 32) : sk b n p = p := by
  unfold sk
  by_cases h : p < n
  · obtain ⟨q, hq⟩ : ∃ q, n - p = q + 1 := ⟨n - p - 1, by omega⟩
    rw [hq]
    exact if_neg (c h)
  · rw [show n - p = 0 by omega]; rfl
theorem sk_sk {b : Nat → Int} {n p : Nat} (h : p ≤ n) : sk b n (sk b n p) = sk b n p := sk_st (sk_rng h).2.2
def ruN (b : Nat → Int) (t : Int) : Nat → Nat → Nat
  | 0, p => p
  | d + 1, p => if srt (b p) = t then ruN b t d (p + 1) else p
theorem ruN_rng {b : Nat → Int} {t : Int} : ∀ d p, p ≤ ruN b t d p ∧ ruN b t d p ≤ p + d ∧ (∀ q, p ≤ q → q < ruN b t d p → srt (b q) = t) ∧ (ruN b t d p < p + d → srt (b (ruN b t d p)) ≠ t) := by
  intro d
  induction d with
  | zero => intro p; show p ≤ p ∧ p ≤ p + 0 ∧ (∀ q, p ≤ q → q < p → _) ∧ (p < p + 0 → _); exact ⟨by omega, by omega, fun q _ _ => by omega, fun z => by omega⟩
  | succ d ih =>
    intro p
    unfold ruN
    by_cases c : srt (b p) = t
    · rw [if_pos c]
      obtain ⟨i1, i2, i3, i4⟩ := ih (p + 1)
      refine ⟨by omega, by omega, fun q z1 z2 => ?_, fun z => i4 (by omega)⟩
      by_cases e : q = p
      · rw [e]; exact c
      · exact i3 q (by omega) z2
    · rw [if_neg c]
      exact ⟨by omega, by omega, fun q _ _ => by omega, fun _ => c⟩
theorem ruN_go {b : Nat → Int} {t : Int} {d p : Nat} (h : 0 < d) : ruN b t d p = if srt (b p) = t then ruN b t (d - 1) (p + 1) else p := by
  obtain ⟨q, rfl⟩ : ∃ q, d = q + 1 := ⟨d - 1, by omega⟩
  rfl
/-- the token at P, and where it ends -/
def tkz (b : Nat → Int) (n P : Nat) : Int := if P < n then srt (b P) else 0
def tez (b : Nat → Int) (n P : Nat) : Nat := if P < n then (if tkz b n P = 1 ∨ tkz b n P = 2 then ruN b (tkz b n P) (n - (P + 1)) (P + 1) else P + 1) else P
theorem tkz_rng {b : Nat → Int} {n P : Nat} : 0 ≤ tkz b n P ∧ tkz b n P ≤ 4 := by
  unfold tkz
  have := @srt_rng (b P)
  split <;> omega
theorem tez_rng {b : Nat → Int} {n P : Nat} (h : P ≤ n) : P ≤ tez b n P ∧ tez b n P ≤ n ∧ (P < n → P < tez b n P) := by
  unfold tez
  by_cases c : P < n
  · rw [if_pos c]
    split
    · obtain ⟨i1, i2, -⟩ := ruN_rng (b := b) (t := tkz b n P) (n - (P + 1)) (P + 1)
      omega
    · omega
  · rw [if_neg c]; omega
theorem tez_run {b : Nat → Int} {n P : Nat} (h : P < n) (c : tkz b n P = 1 ∨ tkz b n P = 2) : tez b n P = ruN b (tkz b n P) (n - P) P := by
  unfold tez
  rw [if_pos h, if_pos c, ruN_go (d := n - P) (by omega), if_pos (by unfold tkz; rw [if_pos h]), show n - P - 1 = n - (P + 1) by omega]
theorem tez_all {b : Nat → Int} {n P : Nat} (h : P < n) (c : tkz b n P = 1 ∨ tkz b n P = 2) : ∀ q, P ≤ q → q < tez b n P → srt (b q) = tkz b n P := by
  rw [tez_run h c]
  exact (ruN_rng (n - P) P).2.2.1
def nxz (b : Nat → Int) (n P : Nat) : Nat := sk b n (tez b n P)
theorem nxz_rng {b : Nat → Int} {n P : Nat} (h : P ≤ n) : P ≤ nxz b n P ∧ nxz b n P ≤ n ∧ (P < n → P < nxz b n P) := by
  obtain ⟨i1, i2, i3⟩ := tez_rng (b := b) h
  obtain ⟨j1, j2, j3⟩ := sk_rng (b := b) i2
  unfold nxz
  omega
theorem nxz_sk {b : Nat → Int} {n P : Nat} (h : P ≤ n) : sk b n (nxz b n P) = nxz b n P := sk_sk (tez_rng h).2.1
/-- place, fault's number, fault's place, draft, clauses told, levels told -/
abbrev Rd : Type := Nat × Int × Int × (Nat → Int) × (Nat → Int) × (Nat → Int)
def noA (s : Rd) (a w : Int) : Rd := if s.2.1 = 0 then (s.1, a, w, s.2.2.2.1, s.2.2.2.2.1, s.2.2.2.2.2) else s
def nt (s : Rd) (a : Int) : Rd := noA s a (s.1 : Int)
def wd (i : Nat) : List Int := nStB.getD i []
def isW (b : Nat → Int) (n P i : Nat) : Bool := decide (tkz b n P = 1 ∧ tez b n P - P = (wd i).length ∧ ∀ k, k < (wd i).length → b (P + k) = (wd i).getD k 0)
def adv (b : Nat → Int) (n : Nat) (s : Rd) : Rd := (nxz b n s.1, s.2.1, s.2.2.1, s.2.2.2.1, s.2.2.2.2.1, s.2.2.2.2.2)
def stD (s : Rd) (k : Nat) (v : Int) : Rd := (s.1, s.2.1, s.2.2.1, upf s.2.2.2.1 k v, s.2.2.2.2.1, s.2.2.2.2.2)
def stC (s : Rd) (k : Nat) (v : Int) : Rd := (s.1, s.2.1, s.2.2.1, s.2.2.2.1, upf s.2.2.2.2.1 k v, s.2.2.2.2.2)
def stL (s : Rd) (k : Nat) (v : Int) : Rd := (s.1, s.2.1, s.2.2.1, s.2.2.2.1, s.2.2.2.2.1, upf s.2.2.2.2.2 k v)
def twd (b : Nat → Int) (n : Nat) (s : Rd) (i : Nat) : Rd := if isW b n s.1 i = true then adv b n s else nt s 1
def tch (b : Nat → Int) (n : Nat) (s : Rd) (i : Nat) : Rd × Int := if isW b n s.1 i = true then (adv b n s, 1) else (twd b n s 9, 0)
def vlN (b : Nat → Int) : Nat → Nat → Int → Int
  | 0, _, v => v
  | d + 1, p, v => vlN b d (p + 1) (v * 10 + b p - 48)
def vl (b : Nat → Int) (n P : Nat) : Int := if 2 < tez b n P - P then -1 else vlN b (tez b n P - P) P 0
def tnm (b : Nat → Int) (n : Nat) (s : Rd) (lo hi : Int) : Rd × Int := if tkz b n s.1 ≠ 2 then (nt s 1, lo) else if vl b n s.1 < lo ∨ hi < vl b n s.1 then (nt s 2, lo) else (adv b n s, vl b n s.1)
def bgc (b : Nat → Int) (n : Nat) (s : Rd) (c : Nat) : Rd := adv b n (stC (if s.2.2.2.2.1 c ≠ 0 then nt s 3 else s) c 1)
def frm (b : Nat → Int) (n : Nat) (s : Rd) : Rd × Int := if isW b n s.1 10 = true then (s, 1) else if isW b n s.1 11 = true then (s, 2) else if isW b n s.1 3 = true then (s, 0) else (nt s 1, 0)
def tsm (b : Nat → Int) (n : Nat) (s : Rd) : Rd := if tkz b n s.1 ≠ 3 then nt s 1 else adv b n s
def psA (s : Rd) (P : Nat) (v : Int) : Rd := stL (if s.2.2.2.2.2 v.toNat ≠ 0 then noA s 3 (P : Int) else s) v.toNat 1
def psB (b : Nat → Int) (n : Nat) (s : Rd) (v : Int) : Rd := adv b n (stD (frm b n s).1 (1 + v.toNat) (frm b n s).2)
def psC (b : Nat → Int) (n : Nat) (s : Rd) (v : Int) : Rd := if isW b n s.1 8 = true then adv b n (stD s (5 + v.toNat) 1) else stD s (5 + v.toNat) 0
def psl (b : Nat → Int) (n : Nat) (s : Rd) : Rd := psC b n (psB b n (psA (tnm b n s 1 4).1 s.1 (tnm b n s 1 4).2) (tnm b n s 1 4).2) (tnm b n s 1 4).2
def tnD (b : Nat → Int) (n : Nat) (s : Rd) (lo hi : Int) (k : Nat) : Rd := stD (tnm b n s lo hi).1 k (tnm b n s lo hi).2
def tcD (b : Nat → Int) (n : Nat) (s : Rd) (i k : Nat) : Rd := stD (tch b n s i).1 k (tch b n s i).2
def pcl (b : Nat → Int) (n : Nat) (s : Rd) : Rd := tsm b n (if isW b n s.1 0 = true then tnD b n (twd b n (tnD b n (bgc b n s 0) 8 60 0) 1) 10 90 1 else if isW b n s.1 2 = true then psl b n (adv b n s) else if isW b n s.1 3 = true then tcD b n (bgc b n s 1) 4 10 else if isW b n s.1 5 = true then tcD b n (bgc b n s 2) 4 11 else if isW b n s.1 6 = true then tcD b n (bgc b n s 3) 7 12 else nt s 1)
def sty0 (k : Nat) : Int := if k = 0 then 20 else if k = 1 then 40 else if 6 ≤ k ∧ k < 10 then 1 else 0
def stt (b : Nat → Int) (n : Nat) : Rd := (sk b n 0, 0, -1, sty0, fun _ => 0, fun _ => 0)
def prN (b : Nat → Int) (n : Nat) : Nat → Rd → Nat → Rd × Nat
  | 0, s, c => (s, c)
  | d + 1, s, c => if tkz b n s.1 = 0 ∨ s.2.1 ≠ 0 then (s, c) else prN b n d (pcl b n s) (c + 1)
theorem prN_go {b : Nat → Int} {n d : Nat} {s : Rd} {c : Nat} (h : 0 < d) : prN b n d s c = if tkz b n s.1 = 0 ∨ s.2.1 ≠ 0 then (s, c) else prN b n (d - 1) (pcl b n s) (c + 1) := by
  obtain ⟨q, rfl⟩ : ∃ q, d = q + 1 := ⟨d - 1, by omega⟩
  rfl
/-- what holds of a reader all the time -/
def okR (b : Nat → Int) (n : Nat) (s : Rd) : Prop := s.1 ≤ n ∧ sk b n s.1 = s.1 ∧ 0 ≤ s.2.1 ∧ s.2.1 ≤ 3 ∧ okStl s.2.2.2.1 ∧ (∀ k, s.2.2.2.2.1 k = 0 ∨ s.2.2.2.2.1 k = 1) ∧ ∀ k, s.2.2.2.2.2 k = 0 ∨ s.2.2.2.2.2 k = 1
theorem okR.m_noA {b : Nat → Int} {n : Nat} {s : Rd} (h : okR b n s) {a w : Int} (ha : 1 ≤ a ∧ a ≤ 3) : okR b n (noA s a w) := by
  unfold noA
  split
  · obtain ⟨h1, h2, h3, h4, h5⟩ := h
    exact ⟨h1, h2, by show 0 ≤ a; omega, by show a ≤ 3; omega, h5⟩
  · exact h
theorem okR.m_nt {b : Nat → Int} {n : Nat} {s : Rd} (h : okR b n s) {a : Int} (ha : 1 ≤ a ∧ a ≤ 3) : okR b n (nt s a) := h.m_noA ha
theorem okR.m_adv {b : Nat → Int} {n : Nat} {s : Rd} (h : okR b n s) : okR b n (adv b n s) := ⟨(nxz_rng h.1).2.1, nxz_sk h.1, h.2.2⟩
theorem okR.m_stC {b : Nat → Int} {n : Nat} {s : Rd} (h : okR b n s) {c : Nat} : okR b n (stC s c 1) := by
  obtain ⟨h1, h2, h3, h4, h5, h6, h7⟩ := h
  refine ⟨h1, h2, h3, h4, h5, fun k => ?_, h7⟩
  show upf s.2.2.2.2.1 c 1 k = 0 ∨ upf s.2.2.2.2.1 c 1 k = 1
  unfold upf
  split
  · exact Or.inr rfl
  · exact h6 k
theorem okR.m_stL {b : Nat → Int} {n : Nat} {s : Rd} (h : okR b n s) {c : Nat} : okR b n (stL s c 1) := by
  obtain ⟨h1, h2, h3, h4, h5, h6, h7⟩ := h
  refine ⟨h1, h2, h3, h4, h5, h6, fun k => ?_⟩
  show upf s.2.2.2.2.2 c 1 k = 0 ∨ upf s.2.2.2.2.2 c 1 k = 1
  unfold upf
  split
  · exact Or.inr rfl
  · exact h7 k
theorem okR.m_stD {b : Nat → Int} {n : Nat} {s : Rd} (h : okR b n s) {k : Nat} {v : Int} (hv : (k = 0 ∧ 8 ≤ v ∧ v ≤ 60) ∨ (k = 1 ∧ 10 ≤ v ∧ v ≤ 90) ∨ (2 ≤ k ∧ k < 6 ∧ 0 ≤ v ∧ v ≤ 2) ∨ (6 ≤ k ∧ (v = 0 ∨ v = 1))) : okR b n (stD s k v) := by
  obtain ⟨h1, h2, h3, h4, ⟨d1, d2, d3, d4, d5, d6⟩, h6, h7⟩ := h
  refine ⟨h1, h2, h3, h4, ?_, h6, h7⟩
  show okStl (upf s.2.2.2.1 k v)
  unfold okStl upf
  refine ⟨?_, ?_, ?_, ?_, fun q q1 q2 => ?_, fun q q1 q2 => ?_⟩
  · split <;> omega
  · split <;> omega
  · split <;> omega
  · split <;> omega
  · have := d5 q q1 q2
    split <;> omega
  · have := d6 q q1 q2
    split <;> omega
theorem okR.m_twd {b : Nat → Int} {n i : Nat} {s : Rd} (h : okR b n s) : okR b n (twd b n s i) := by
  unfold twd
  split
  · exact h.m_adv
  · exact h.m_nt (by omega)
theorem okR.m_tch {b : Nat → Int} {n i : Nat} {s : Rd} (h : okR b n s) : okR b n (tch b n s i).1 ∧ ((tch b n s i).2 = 0 ∨ (tch b n s i).2 = 1) := by
  unfold tch
  split
  · exact ⟨h.m_adv, Or.inr rfl⟩
  · exact ⟨h.m_twd, Or.inl rfl⟩
theorem okR.m_tnm {b : Nat → Int} {n : Nat} {s : Rd} {lo hi : Int} (h : okR b n s) (hl : lo ≤ hi) : okR b n (tnm b n s lo hi).1 ∧ lo ≤ (tnm b n s lo hi).2 ∧ (tnm b n s lo hi).2 ≤ hi := by
  unfold tnm
  split
  · exact ⟨h.m_nt (by omega), Int.le_refl _, hl⟩
  · split
    · exact ⟨h.m_nt (by omega), Int.le_refl _, hl⟩
    · exact ⟨h.m_adv, by show lo ≤ vl b n s.1; omega, by show vl b n s.1 ≤ hi; omega⟩
theorem okR.m_bgc {b : Nat → Int} {n c : Nat} {s : Rd} (h : okR b n s) : okR b n (bgc b n s c) := by
  unfold bgc
  apply okR.m_adv
  apply okR.m_stC
  split
  · exact h.m_nt (by omega)
  · exact h
theorem okR.m_frm {b : Nat → Int} {n : Nat} {s : Rd} (h : okR b n s) : okR b n (frm b n s).1 ∧ 0 ≤ (frm b n s).2 ∧ (frm b n s).2 ≤ 2 := by
  unfold frm
  split
  · exact ⟨h, by dsimp only; omega, by dsimp only; omega⟩
  · split
    · exact ⟨h, by dsimp only; omega, by dsimp only; omega⟩
    · split
      · exact ⟨h, by dsimp only; omega, by dsimp only; omega⟩
      · exact ⟨h.m_nt (by omega), by dsimp only; omega, by dsimp only; omega⟩
theorem okR.m_tsm {b : Nat → Int} {n : Nat} {s : Rd} (h : okR b n s) : okR b n (tsm b n s) := by
  unfold tsm
  split
  · exact h.m_nt (by omega)
  · exact h.m_adv
theorem okR.m_psA {b : Nat → Int} {n P : Nat} {s : Rd} {v : Int} (h : okR b n s) : okR b n (psA s P v) := by
  unfold psA
  apply okR.m_stL
  split
  · exact h.m_noA (by omega)
  · exact h
theorem okR.m_psB {b : Nat → Int} {n : Nat} {s : Rd} {v : Int} (h : okR b n s) (hv : 1 ≤ v ∧ v ≤ 4) : okR b n (psB b n s v) := by
  obtain ⟨f1, f2, f3⟩ := h.m_frm
  unfold psB
  exact okR.m_adv (okR.m_stD f1 (by omega))
theorem okR.m_psC {b : Nat → Int} {n : Nat} {s : Rd} {v : Int} (h : okR b n s) (hv : 1 ≤ v ∧ v ≤ 4) : okR b n (psC b n s v) := by
  unfold psC
  split
  · exact okR.m_adv (okR.m_stD h (by omega))
  · exact okR.m_stD h (by omega)
theorem okR.m_psl {b : Nat → Int} {n : Nat} {s : Rd} (h : okR b n s) : okR b n (psl b n s) := by
  obtain ⟨t1, t2, t3⟩ := h.m_tnm (lo := 1) (hi := 4) (by omega)
  unfold psl
  exact okR.m_psC (okR.m_psB (okR.m_psA t1) ⟨t2, t3⟩) ⟨t2, t3⟩
theorem okR.m_tnD {b : Nat → Int} {n k : Nat} {s : Rd} {lo hi : Int} (h : okR b n s) (hl : (k = 0 ∧ lo = 8 ∧ hi = 60) ∨ (k = 1 ∧ lo = 10 ∧ hi = 90)) : okR b n (tnD b n s lo hi k) := by
  obtain ⟨t1, t2, t3⟩ := h.m_tnm (lo := lo) (hi := hi) (by omega)
  unfold tnD
  exact okR.m_stD t1 (by omega)
theorem okR.m_tcD {b : Nat → Int} {n i k : Nat} {s : Rd} (h : okR b n s) (hk : 6 ≤ k) : okR b n (tcD b n s i k) := by
  obtain ⟨t1, t2⟩ := h.m_tch (i := i)
  unfold tcD
  exact okR.m_stD t1 (by omega)
theorem okR.m_pcl {b : Nat → Int} {n : Nat} {s : Rd} (h : okR b n s) : okR b n (pcl b n s) := by
  unfold pcl
  apply okR.m_tsm
  split
  · exact okR.m_tnD (okR.m_twd (okR.m_tnD (okR.m_bgc h) (by omega))) (by omega)
  · split
    · exact okR.m_psl h.m_adv
    · split
      · exact okR.m_tcD (okR.m_bgc h) (by omega)
      · split
        · exact okR.m_tcD (okR.m_bgc h) (by omega)
        · split
          · exact okR.m_tcD (okR.m_bgc h) (by omega)
          · exact h.m_nt (by omega)
theorem okR.m_stt {b : Nat → Int} {n : Nat} : okR b n (stt b n) := by
  refine ⟨(sk_rng (Nat.zero_le _)).2.1, sk_sk (Nat.zero_le _), by show (0 : Int) ≤ 0; omega, by show (0 : Int) ≤ 3; omega, ?_, fun _ => Or.inl rfl, fun _ => Or.inl rfl⟩
  show okStl sty0
  refine ⟨by decide, by decide, by decide, by decide, fun q q1 q2 => ?_, fun q q1 q2 => ?_⟩
  · unfold sty0
    rw [if_neg (by omega), if_neg (by omega), if_neg (by omega)]
    omega
  · unfold sty0
    rw [if_neg (by omega), if_neg (by omega)]
    split <;> omega
theorem okR.m_prN {b : Nat → Int} {n : Nat} : ∀ (d : Nat) (s : Rd) (c : Nat), okR b n s → okR b n (prN b n d s c).1 ∧ (prN b n d s c).2 ≤ c + d := by
  intro d
  induction d with
  | zero => intro s c h; exact ⟨h, Nat.le_refl _⟩
  | succ d ih =>
    intro s c h
    unfold prN
    split
    · exact ⟨h, by show c ≤ _; omega⟩
    · have := ih (pcl b n s) (c + 1) h.m_pcl
      exact ⟨this.1, by omega⟩
def rdE (S : St) : Rd × Nat := prN S.2.2.2.2.2.1 S.2.2.2.2.1 160 (stt S.2.2.2.2.2.1 S.2.2.2.2.1) 0
def oRead (S : St) : St := (if ((rdE S).1).2.1 = 0 then (S.1.1, S.1.2.1, S.1.2.2.1, ((rdE S).1).2.2.2.1) else S.1, S.2.1, S.2.2.1, S.2.2.2.1, 0, S.2.2.2.2.2.1, ((rdE S).1).2.2.1)
def aRead (S : St) : Int := if ((rdE S).1).2.1 = 0 then ((rdE S).2 : Int) else -10 - ((rdE S).1).2.1
theorem oRead_ok {S : St} (ok : okS S) : okS (oRead S) := by
  have hr := (okR.m_prN (b := S.2.2.2.2.2.1) (n := S.2.2.2.2.1) 160 _ 0 okR.m_stt).1
  obtain ⟨h1, h2, h3, h4, h5, h6, h7, h8⟩ := ok
  unfold oRead
  by_cases c : ((rdE S).1).2.1 = 0
  · rw [if_pos c]
    refine ⟨⟨h1.1, h1.2.1, h1.2.2.1, h1.2.2.2.1, hr.2.2.2.2.1⟩, h2, h3, h4, h5, h6, Nat.zero_le _, fun k hk => absurd hk (Nat.not_lt_zero _)⟩
  · rw [if_neg c]
    exact ⟨h1, h2, h3, h4, h5, h6, Nat.zero_le _, fun k hk => absurd hk (Nat.not_lt_zero _)⟩
