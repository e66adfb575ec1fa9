/-! the style read: faults kept, what is told as bits -/
theorem noA_f {s : Rd} {a w : Int} (h : s.2.1 ≠ 0) : noA s a w = s := if_neg h
theorem nt_f {s : Rd} {a : Int} (h : s.2.1 ≠ 0) : nt s a = s := if_neg h
theorem noA_0 {s : Rd} {a w : Int} (h : s.2.1 = 0) : noA s a w = (s.1, a, w, s.2.2.2.1, s.2.2.2.2.1, s.2.2.2.2.2) := if_pos h
theorem nt_0 {s : Rd} {a : Int} (h : s.2.1 = 0) : nt s a = (s.1, a, (s.1 : Int), s.2.2.2.1, s.2.2.2.2.1, s.2.2.2.2.2) := if_pos h
theorem noA_po {s : Rd} {a w : Int} : (noA s a w).1 = s.1 := by unfold noA; split <;> rfl
theorem nt_po {s : Rd} {a : Int} : (nt s a).1 = s.1 := noA_po
theorem fz_twd {b : Nat → Int} {n : Nat} {s : Rd} {i : Nat} (h : s.2.1 ≠ 0) : (twd b n s i).2.1 = s.2.1 ∧ (twd b n s i).2.2.1 = s.2.2.1 := by
  unfold twd
  split
  · exact ⟨rfl, rfl⟩
  · rw [nt_f h]; exact ⟨rfl, rfl⟩
theorem fz_tch {b : Nat → Int} {n : Nat} {s : Rd} {i : Nat} (h : s.2.1 ≠ 0) : ((tch b n s i).1).2.1 = s.2.1 ∧ ((tch b n s i).1).2.2.1 = s.2.2.1 := by
  unfold tch
  split
  · exact ⟨rfl, rfl⟩
  · exact fz_twd h
theorem fz_tnm {b : Nat → Int} {n : Nat} {s : Rd} {lo hi : Int} (h : s.2.1 ≠ 0) : ((tnm b n s lo hi).1).2.1 = s.2.1 ∧ ((tnm b n s lo hi).1).2.2.1 = s.2.2.1 := by
  unfold tnm
  split
  · rw [nt_f h]; exact ⟨rfl, rfl⟩
  · split
    · rw [nt_f h]; exact ⟨rfl, rfl⟩
    · exact ⟨rfl, rfl⟩
theorem fz_tnD {b : Nat → Int} {n : Nat} {s : Rd} {lo hi : Int} {k : Nat} (h : s.2.1 ≠ 0) : (tnD b n s lo hi k).2.1 = s.2.1 ∧ (tnD b n s lo hi k).2.2.1 = s.2.2.1 := by
  exact fz_tnm h
theorem fz_tcD {b : Nat → Int} {n : Nat} {s : Rd} {i k : Nat} (h : s.2.1 ≠ 0) : (tcD b n s i k).2.1 = s.2.1 ∧ (tcD b n s i k).2.2.1 = s.2.2.1 := by
  exact fz_tch h
theorem fz_frm {b : Nat → Int} {n : Nat} {s : Rd}  (h : s.2.1 ≠ 0) : ((frm b n s).1).2.1 = s.2.1 ∧ ((frm b n s).1).2.2.1 = s.2.2.1 := by
  unfold frm
  split
  · exact ⟨rfl, rfl⟩
  · split
    · exact ⟨rfl, rfl⟩
    · split
      · exact ⟨rfl, rfl⟩
      · rw [nt_f h]; exact ⟨rfl, rfl⟩
theorem fz_tsm {b : Nat → Int} {n : Nat} {s : Rd}  (h : s.2.1 ≠ 0) : (tsm b n s).2.1 = s.2.1 ∧ (tsm b n s).2.2.1 = s.2.2.1 := by
  unfold tsm
  split
  · rw [nt_f h]; exact ⟨rfl, rfl⟩
  · exact ⟨rfl, rfl⟩
theorem fz_psA {s : Rd} {P : Nat} {v : Int} (h : s.2.1 ≠ 0) : (psA s P v).2.1 = s.2.1 ∧ (psA s P v).2.2.1 = s.2.2.1 := by
  unfold psA
  split
  · rw [noA_f h]; exact ⟨rfl, rfl⟩
  · exact ⟨rfl, rfl⟩
theorem fz_psB {b : Nat → Int} {n : Nat} {s : Rd} {v : Int} (h : s.2.1 ≠ 0) : (psB b n s v).2.1 = s.2.1 ∧ (psB b n s v).2.2.1 = s.2.2.1 := by
  exact fz_frm h
theorem fz_psC {b : Nat → Int} {n : Nat} {s : Rd} {v : Int} (h : s.2.1 ≠ 0) : (psC b n s v).2.1 = s.2.1 ∧ (psC b n s v).2.2.1 = s.2.2.1 := by
  unfold psC
  split <;> exact ⟨rfl, rfl⟩
theorem fz_psR {b : Nat → Int} {n P : Nat} {s : Rd} {v : Int} (h : s.2.1 ≠ 0) : (psC b n (psB b n (psA s P v) v) v).2.1 = s.2.1 ∧ (psC b n (psB b n (psA s P v) v) v).2.2.1 = s.2.2.1 := by
  obtain ⟨a1, a2⟩ := fz_psA (P := P) (v := v) h
  obtain ⟨b1, b2⟩ := fz_psB (b := b) (n := n) (s := psA s P v) (v := v) (by rw [a1]; exact h)
  obtain ⟨c1, c2⟩ := fz_psC (b := b) (n := n) (s := psB b n (psA s P v) v) (v := v) (by rw [b1, a1]; exact h)
  exact ⟨by rw [c1, b1, a1], by rw [c2, b2, a2]⟩
theorem mo_adv {b : Nat → Int} {n : Nat} {s : Rd}  (h : okR b n s) : s.1 ≤ (adv b n s).1 := by
  exact (nxz_rng h.1).1
theorem mo_twd {b : Nat → Int} {n : Nat} {s : Rd} {i : Nat} (h : okR b n s) : s.1 ≤ (twd b n s i).1 := by
  unfold twd
  split
  · exact mo_adv h
  · rw [nt_po]; exact Nat.le_refl _
theorem mo_tch {b : Nat → Int} {n : Nat} {s : Rd} {i : Nat} (h : okR b n s) : s.1 ≤ ((tch b n s i).1).1 := by
  unfold tch
  split
  · exact mo_adv h
  · exact mo_twd h
theorem mo_tnm {b : Nat → Int} {n : Nat} {s : Rd} {lo hi : Int} (h : okR b n s) : s.1 ≤ ((tnm b n s lo hi).1).1 := by
  unfold tnm
  split
  · exact Nat.le_of_eq nt_po.symm
  · split
    · exact Nat.le_of_eq nt_po.symm
    · exact mo_adv h
theorem mo_frm {b : Nat → Int} {n : Nat} {s : Rd}  (h : okR b n s) : s.1 ≤ ((frm b n s).1).1 := by
  unfold frm
  split
  · exact Nat.le_refl _
  · split
    · exact Nat.le_refl _
    · split
      · exact Nat.le_refl _
      · exact Nat.le_of_eq nt_po.symm
theorem mo_psA {s : Rd} {P : Nat} {v : Int} : (psA s P v).1 = s.1 := by
  unfold psA
  split
  · exact noA_po
  · rfl
theorem mo_bgc {b : Nat → Int} {n : Nat} {s : Rd} {c : Nat} (h : okR b n s) : s.1 ≤ (bgc b n s c).1 := by
  unfold bgc
  have e : (stC (if s.2.2.2.2.1 c ≠ 0 then nt s 3 else s) c 1).1 = s.1 := by
    split
    · exact nt_po
    · rfl
  show s.1 ≤ nxz b n (stC (if s.2.2.2.2.1 c ≠ 0 then nt s 3 else s) c 1).1
  rw [e]
  exact (nxz_rng h.1).1
theorem mo_psB {b : Nat → Int} {n : Nat} {s : Rd} {v : Int} (h : okR b n s) : s.1 ≤ (psB b n s v).1 := by
  have f := mo_frm h
  have g := (nxz_rng (b := b) h.m_frm.1.1).1
  show s.1 ≤ nxz b n ((frm b n s).1).1
  omega
theorem mo_psC {b : Nat → Int} {n : Nat} {s : Rd} {v : Int} (h : okR b n s) : s.1 ≤ (psC b n s v).1 := by
  unfold psC
  split
  · exact (nxz_rng (b := b) h.1).1
  · exact Nat.le_refl _
theorem mo_psl {b : Nat → Int} {n : Nat} {s : Rd}  (h : okR b n s) : s.1 ≤ (psl b n s).1 := by
  obtain ⟨t1, t2, t3⟩ := h.m_tnm (lo := 1) (hi := 4) (by omega)
  have a := mo_tnm (lo := 1) (hi := 4) h
  have c := mo_psB (v := (tnm b n s 1 4).2) (okR.m_psA (P := s.1) (v := (tnm b n s 1 4).2) t1)
  have d := mo_psC (v := (tnm b n s 1 4).2) (okR.m_psB (okR.m_psA (P := s.1) (v := (tnm b n s 1 4).2) t1) ⟨t2, t3⟩)
  rw [mo_psA] at c
  unfold psl
  omega
theorem pcl_po {b : Nat → Int} {n : Nat} {s : Rd} (h : okR b n s) (h0 : (pcl b n s).2.1 = 0) : s.1 < (pcl b n s).1 := by
  have k : ∀ X : Rd, okR b n X → s.1 ≤ X.1 → (tsm b n X).2.1 = 0 → s.1 < (tsm b n X).1 := by
    intro X oX hX fX
    unfold tsm at fX ⊢
    by_cases c : tkz b n X.1 ≠ 3
    · exfalso
      rw [if_pos c] at fX
      by_cases z : X.2.1 = 0
      · rw [nt_0 z] at fX; exact absurd fX (by show ¬ (1 : Int) = 0; decide)
      · rw [nt_f z] at fX; exact z fX
    · rw [if_neg c]
      have hl : X.1 < n := by
        apply Decidable.byContradiction
        intro z
        apply c
        unfold tkz
        rw [if_neg z]
        decide
      have := (nxz_rng (b := b) oX.1).2.2 hl
      show s.1 < nxz b n X.1
      omega
  unfold pcl at h0 ⊢
  refine k _ ?_ ?_ h0
  · split
    · exact okR.m_tnD (okR.m_twd (okR.m_tnD (okR.m_bgc h) (by omega))) (by omega)
    · split
      · exact okR.m_psl h.m_adv
      · split
        · exact okR.m_tcD (okR.m_bgc h) (by omega)
        · split
          · exact okR.m_tcD (okR.m_bgc h) (by omega)
          · split
            · exact okR.m_tcD (okR.m_bgc h) (by omega)
            · exact h.m_nt (by omega)
  · split
    · have a1 := mo_bgc (c := 0) h
      have a2 := mo_tnm (lo := 8) (hi := 60) (okR.m_bgc (c := 0) h)
      have a3 := mo_twd (i := 1) (okR.m_tnD (k := 0) (lo := 8) (hi := 60) (okR.m_bgc (c := 0) h) (by omega))
      have a4 := mo_tnm (lo := 10) (hi := 90) (okR.m_twd (i := 1) (okR.m_tnD (k := 0) (lo := 8) (hi := 60) (okR.m_bgc (c := 0) h) (by omega)))
      exact Nat.le_trans a1 (Nat.le_trans a2 (Nat.le_trans a3 a4))
    · split
      · exact Nat.le_trans (mo_adv h) (mo_psl h.m_adv)
      · split
        · exact Nat.le_trans (mo_bgc h) (mo_tch (okR.m_bgc h))
        · split
          · exact Nat.le_trans (mo_bgc h) (mo_tch (okR.m_bgc h))
          · split
            · exact Nat.le_trans (mo_bgc h) (mo_tch (okR.m_bgc h))
            · exact Nat.le_of_eq nt_po.symm
theorem tnm_a {b : Nat → Int} {n : Nat} {s : Rd} {lo hi : Int} (f0 : s.2.1 = 0) (t : tkz b n s.1 ≠ 2) : ((tnm b n s lo hi).1).2.1 = 1 ∧ ((tnm b n s lo hi).1).2.2.1 = (s.1 : Int) := by
  unfold tnm
  rw [if_pos t, nt_0 f0]
  exact ⟨rfl, rfl⟩
theorem tnm_b {b : Nat → Int} {n : Nat} {s : Rd} {lo hi : Int} (f0 : s.2.1 = 0) (t : tkz b n s.1 = 2) (v : vl b n s.1 < lo ∨ hi < vl b n s.1) : ((tnm b n s lo hi).1).2.1 = 2 ∧ ((tnm b n s lo hi).1).2.2.1 = (s.1 : Int) := by
  unfold tnm
  rw [if_neg (fun z => z t), if_pos v, nt_0 f0]
  exact ⟨rfl, rfl⟩
theorem tnm_c {b : Nat → Int} {n : Nat} {s : Rd} {lo hi : Int} (t : tkz b n s.1 = 2) (v : ¬ (vl b n s.1 < lo ∨ hi < vl b n s.1)) : tnm b n s lo hi = (adv b n s, vl b n s.1) := by
  unfold tnm
  rw [if_neg (fun z => z t), if_neg v]
def sn (c l : Nat → Int) : Int := c 0 + 4 * c 1 + 8 * c 2 + 16 * c 3 + 512 * l 1 + 1024 * l 2 + 2048 * l 3 + 4096 * l 4
def sBt (s k : Int) : Int := op2 (· &&& ·) (op2 (fun a b => a >>> (b &&& 31)) s k) 1
def sOr (s k : Int) : Int := op2 (· ||| ·) s (op2 (fun a b => a <<< (b &&& 31)) 1 k)
def sF (a b c d e f g h : Fin 2) : Int := (a.val : Int) + 4 * (b.val : Int) + 8 * (c.val : Int) + 16 * (d.val : Int) + 512 * (e.val : Int) + 1024 * (f.val : Int) + 2048 * (g.val : Int) + 4096 * (h.val : Int)
theorem sF_B : ∀ a b c d e f g h : Fin 2, sBt (sF a b c d e f g h) 0 = (a.val : Int) ∧ sBt (sF a b c d e f g h) 2 = (b.val : Int) ∧ sBt (sF a b c d e f g h) 3 = (c.val : Int) ∧ sBt (sF a b c d e f g h) 4 = (d.val : Int) ∧ sBt (sF a b c d e f g h) 9 = (e.val : Int) ∧ sBt (sF a b c d e f g h) 10 = (f.val : Int) ∧ sBt (sF a b c d e f g h) 11 = (g.val : Int) ∧ sBt (sF a b c d e f g h) 12 = (h.val : Int) := by decide +kernel
theorem sF_O : ∀ a b c d e f g h : Fin 2, sOr (sF a b c d e f g h) 0 = sF 1 b c d e f g h ∧ sOr (sF a b c d e f g h) 2 = sF a 1 c d e f g h ∧ sOr (sF a b c d e f g h) 3 = sF a b 1 d e f g h ∧ sOr (sF a b c d e f g h) 4 = sF a b c 1 e f g h ∧ sOr (sF a b c d e f g h) 9 = sF a b c d 1 f g h ∧ sOr (sF a b c d e f g h) 10 = sF a b c d e 1 g h ∧ sOr (sF a b c d e f g h) 11 = sF a b c d e f 1 h ∧ sOr (sF a b c d e f g h) 12 = sF a b c d e f g 1 := by decide +kernel
theorem f2of {z : Int} (h : z = 0 ∨ z = 1) : ∃ a : Fin 2, z = (a.val : Int) := by
  rcases h with h | h
  · exact ⟨0, h⟩
  · exact ⟨1, h⟩
theorem sn_all {c l : Nat → Int} (hc : ∀ k, c k = 0 ∨ c k = 1) (hl : ∀ k, l k = 0 ∨ l k = 1) : (sBt (sn c l) 0 = c 0 ∧ sBt (sn c l) 2 = c 1 ∧ sBt (sn c l) 3 = c 2 ∧ sBt (sn c l) 4 = c 3 ∧ sBt (sn c l) 9 = l 1 ∧ sBt (sn c l) 10 = l 2 ∧ sBt (sn c l) 11 = l 3 ∧ sBt (sn c l) 12 = l 4) ∧ (sOr (sn c l) 0 = sn (upf c 0 1) l ∧ sOr (sn c l) 2 = sn (upf c 1 1) l ∧ sOr (sn c l) 3 = sn (upf c 2 1) l ∧ sOr (sn c l) 4 = sn (upf c 3 1) l ∧ sOr (sn c l) 9 = sn c (upf l 1 1) ∧ sOr (sn c l) 10 = sn c (upf l 2 1) ∧ sOr (sn c l) 11 = sn c (upf l 3 1) ∧ sOr (sn c l) 12 = sn c (upf l 4 1)) := by
  obtain ⟨a0, e0⟩ := f2of (hc 0)
  obtain ⟨a1, e1⟩ := f2of (hc 1)
  obtain ⟨a2, e2⟩ := f2of (hc 2)
  obtain ⟨a3, e3⟩ := f2of (hc 3)
  obtain ⟨a4, e4⟩ := f2of (hl 1)
  obtain ⟨a5, e5⟩ := f2of (hl 2)
  obtain ⟨a6, e6⟩ := f2of (hl 3)
  obtain ⟨a7, e7⟩ := f2of (hl 4)
  have es : sn c l = sF a0 a1 a2 a3 a4 a5 a6 a7 := by unfold sn sF; rw [e0, e1, e2, e3, e4, e5, e6, e7]
  have o1 : ((1 : Fin 2).val : Int) = 1 := rfl
  refine ⟨?_, ?_⟩
  · rw [es, e0, e1, e2, e3, e4, e5, e6, e7]
    exact sF_B a0 a1 a2 a3 a4 a5 a6 a7
  · have u : ∀ (f : Nat → Int) (i k : Nat), upf f i 1 k = if k = i then 1 else f k := fun _ _ _ => rfl
    have k := sF_O a0 a1 a2 a3 a4 a5 a6 a7
    rw [es]
    have s0 : sn (upf c 0 1) l = sF 1 a1 a2 a3 a4 a5 a6 a7 := by unfold sn sF; simp only [u]; rw [e1, e2, e3, e4, e5, e6, e7, o1]; simp
    have s1 : sn (upf c 1 1) l = sF a0 1 a2 a3 a4 a5 a6 a7 := by unfold sn sF; simp only [u]; rw [e0, e2, e3, e4, e5, e6, e7, o1]; simp
    have s2 : sn (upf c 2 1) l = sF a0 a1 1 a3 a4 a5 a6 a7 := by unfold sn sF; simp only [u]; rw [e0, e1, e3, e4, e5, e6, e7, o1]; simp
    have s3 : sn (upf c 3 1) l = sF a0 a1 a2 1 a4 a5 a6 a7 := by unfold sn sF; simp only [u]; rw [e0, e1, e2, e4, e5, e6, e7, o1]; simp
    have s4 : sn c (upf l 1 1) = sF a0 a1 a2 a3 1 a5 a6 a7 := by unfold sn sF; simp only [u]; rw [e0, e1, e2, e3, e5, e6, e7, o1]; simp
    have s5 : sn c (upf l 2 1) = sF a0 a1 a2 a3 a4 1 a6 a7 := by unfold sn sF; simp only [u]; rw [e0, e1, e2, e3, e4, e6, e7, o1]; simp
    have s6 : sn c (upf l 3 1) = sF a0 a1 a2 a3 a4 a5 1 a7 := by unfold sn sF; simp only [u]; rw [e0, e1, e2, e3, e4, e5, e7, o1]; simp
    have s7 : sn c (upf l 4 1) = sF a0 a1 a2 a3 a4 a5 a6 1 := by unfold sn sF; simp only [u]; rw [e0, e1, e2, e3, e4, e5, e6, o1]; simp
    rw [s0, s1, s2, s3, s4, s5, s6, s7]
    exact k
theorem sn_lv {c l : Nat → Int} (hc : ∀ k, c k = 0 ∨ c k = 1) (hl : ∀ k, l k = 0 ∨ l k = 1) {u : Nat} (hu : 1 ≤ u ∧ u ≤ 4) : sBt (sn c l) (8 + (u : Int)) = l u ∧ sOr (sn c l) (8 + (u : Int)) = sn c (upf l u 1) := by
  obtain ⟨⟨-, -, -, -, b1, b2, b3, b4⟩, -, -, -, -, o1, o2, o3, o4⟩ := sn_all hc hl
  have cs : u = 1 ∨ u = 2 ∨ u = 3 ∨ u = 4 := by omega
  rcases cs with rfl | rfl | rfl | rfl
  · exact ⟨b1, o1⟩
  · exact ⟨b2, o2⟩
  · exact ⟨b3, o3⟩
  · exact ⟨b4, o4⟩
theorem skN_prev {b : Nat → Int} : ∀ d p, p < skN b d p → b (skN b d p - 1) = 32 := by
  intro d
  induction d with
  | zero => intro p h; exact absurd h (Nat.lt_irrefl _)
  | succ d ih =>
    intro p h
    unfold skN at h ⊢
    by_cases c : b p = 32
    · rw [if_pos c] at h ⊢
      by_cases e : p + 1 < skN b d (p + 1)
      · exact ih (p + 1) e
      · have := (skN_rng (b := b) d (p + 1)).1
        rw [show skN b d (p + 1) = p + 1 by omega]
        exact c
    · rw [if_neg c] at h
      exact absurd h (Nat.lt_irrefl _)
theorem nxz_prev {b : Nat → Int} {n P : Nat} (hP : P ≤ n) (c : tkz b n P = 1) : 1 ≤ nxz b n P ∧ b (nxz b n P - 1) ≠ 48 := by
  have hl : P < n := by
    apply Decidable.byContradiction
    intro z
    unfold tkz at c
    rw [if_neg z] at c
    omega
  obtain ⟨e1, e2, e3⟩ := tez_rng (b := b) hP
  have e4 := e3 hl
  obtain ⟨k1, k2, -⟩ := sk_rng (b := b) e2
  unfold nxz
  refine ⟨by omega, ?_⟩
  by_cases z : tez b n P < sk b n (tez b n P)
  · have : b (sk b n (tez b n P) - 1) = 32 := skN_prev _ _ z
    rw [this]; decide
  · rw [show sk b n (tez b n P) = tez b n P by omega]
    have := srt1.mp ((tez_all hl (Or.inl c) (tez b n P - 1) (by omega) (by omega)).trans c)
    omega
theorem oneK1 {w c : Int} (hw : 0 ≤ w) (hc : 0 < c) : oneK w c (-1) (-1) = if w = c then 0 else -1 := by
  unfold oneK
  by_cases e : w = c
  · rw [if_neg (by omega), if_pos e, if_pos e]
  · have e3 : (if w = c then (0 : Int) else -1) = -1 := if_neg e
    rw [e3]
    by_cases z : w = 0
    · rw [if_pos z]
    · rw [if_neg z, if_neg e, if_neg (by omega), if_neg (by omega)]
def RsM (b : Nat → Int) (n : Nat) (h2 : Hp) (x : Int) (X : Rd) : Prop := x = X.2.1 ∧ h2.2.1 1085 50 = X.2.2.1 ∧ (x = 0 → ∃ p2 : Nat, h2.2.1 1085 51 = (p2 : Int) ∧ p2 ≤ n ∧ sk b n p2 = X.1 ∧ ∀ k, k < 13 → h2.2.1 1126 k = X.2.2.2.1 k)
