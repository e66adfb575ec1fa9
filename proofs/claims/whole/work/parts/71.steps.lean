/-! steps counted: mathematics -/
theorem rcN_mono {e : Nat → Nat → Bool} {src v : Nat} : ∀ (d n : Nat), rcN e src n v = true → rcN e src (n + d) v = true := by
  intro d
  induction d with
  | zero => intro n h; exact h
  | succ d ih =>
    intro n h
    show (rcN e src (n + d) v || an (fun s => rcN e src (n + d) s && e s v) 0 61) = true
    rw [ih n h, Bool.true_or]
theorem rcN_le {e : Nat → Nat → Bool} {src v n m : Nat} (h : rcN e src n v = true) (hm : n ≤ m) : rcN e src m v = true := by
  have := rcN_mono (e := e) (src := src) (v := v) (m - n) n h
  rw [show n + (m - n) = m by omega] at this
  exact this
/-- dsN from n on, d of them: the least, or none -/
theorem dsN_val {e : Nat → Nat → Bool} {src v : Nat} : ∀ (d n : Nat), (dsN e src v d n = -1 ∧ ∀ m, n ≤ m → m < n + d → rcN e src m v = false) ∨ (∃ q, dsN e src v d n = ((q : Nat) : Int) ∧ n ≤ q ∧ q < n + d ∧ rcN e src q v = true ∧ ∀ m, n ≤ m → m < q → rcN e src m v = false) := by
  intro d
  induction d with
  | zero => intro n; left; exact ⟨rfl, fun m h1 h2 => by omega⟩
  | succ d ih =>
    intro n
    show ((if rcN e src n v = true then (n : Int) else dsN e src v d (n + 1)) = -1 ∧ _) ∨ (∃ q, (if rcN e src n v = true then (n : Int) else dsN e src v d (n + 1)) = ((q : Nat) : Int) ∧ _)
    by_cases c : rcN e src n v = true
    · rw [if_pos c]
      right
      exact ⟨n, rfl, Nat.le_refl _, by omega, c, fun m h1 h2 => by omega⟩
    · rw [if_neg c]
      rcases ih (n + 1) with ⟨h1, h2⟩ | ⟨q, h1, h2, h3, h4, h5⟩
      · left
        refine ⟨h1, fun m h3 h4 => ?_⟩
        by_cases em : m = n
        · rw [em]; simpa using c
        · exact h2 m (by omega) (by omega)
      · right
        refine ⟨q, h1, by omega, by omega, h4, fun m h6 h7 => ?_⟩
        by_cases em : m = n
        · rw [em]; simpa using c
        · exact h5 m (by omega) h7
/-- how far v is, among s steps -/
def dv (e : Nat → Nat → Bool) (src s v : Nat) : Int := dsN e src v (s + 1) 0
theorem dv_c {e : Nat → Nat → Bool} {src s v : Nat} : (dv e src s v = -1 ∧ rcN e src s v = false) ∨ (∃ q, dv e src s v = ((q : Nat) : Int) ∧ q ≤ s ∧ rcN e src q v = true ∧ ∀ m, m < q → rcN e src m v = false) := by
  unfold dv
  rcases dsN_val (e := e) (src := src) (v := v) (s + 1) 0 with ⟨h1, h2⟩ | ⟨q, h1, h2, h3, h4, h5⟩
  · left; exact ⟨h1, h2 s (by omega) (by omega)⟩
  · right; exact ⟨q, h1, by omega, h4, fun m hm => h5 m (by omega) hm⟩
theorem dv_eq {e : Nat → Nat → Bool} {src s q v : Nat} (h1 : q ≤ s) (h2 : rcN e src q v = true) (h3 : ∀ m, m < q → rcN e src m v = false) : dv e src s v = (q : Int) := by
  rcases dv_c (e := e) (src := src) (s := s) (v := v) with ⟨a, b⟩ | ⟨p, a, b, c, d⟩
  · rw [rcN_le h2 h1] at b; cases b
  · rw [a]
    rcases Nat.lt_trichotomy p q with z | z | z
    · rw [h3 p z] at c; cases c
    · rw [z]
    · rw [d q z] at h2; cases h2
theorem dv_no {e : Nat → Nat → Bool} {src s v : Nat} (h : rcN e src s v = false) : dv e src s v = -1 := by
  rcases dv_c (e := e) (src := src) (s := s) (v := v) with ⟨a, b⟩ | ⟨p, a, b, c, d⟩
  · exact a
  · rw [rcN_le c b] at h; cases h
/-- what is new at step s + 1 comes from what was new at step s -/
theorem rcN_new {e : Nat → Nat → Bool} {src s v : Nat} (h : rcN e src s v = false) : rcN e src (s + 1) v = true ↔ ∃ u, u < 61 ∧ dv e src s u = (s : Int) ∧ e u v = true := by
  constructor
  · intro h1
    have h2 : (rcN e src s v || an (fun q => rcN e src s q && e q v) 0 61) = true := h1
    rw [h, Bool.false_or] at h2
    have h3 : ¬ an (fun q => rcN e src s q && e q v) 0 61 = false := by rw [h2]; decide
    rw [an_false] at h3
    obtain ⟨u, hu⟩ := Classical.not_forall.mp h3
    have hu2 : 0 ≤ u ∧ u < 0 + 61 ∧ (rcN e src s u && e u v) = true := by
      refine ⟨Nat.zero_le _, ?_, ?_⟩
      · exact Decidable.byContradiction (fun z => hu (fun _ z2 => absurd z2 z))
      · have : ¬ (rcN e src s u && e u v) = false := fun z => hu (fun _ _ => z)
        simpa using this
    obtain ⟨-, u1, u2⟩ := hu2
    rw [Bool.and_eq_true] at u2
    refine ⟨u, by omega, ?_, u2.2⟩
    rcases dv_c (e := e) (src := src) (s := s) (v := u) with ⟨a, b⟩ | ⟨p, a, b, c, d⟩
    · rw [u2.1] at b; cases b
    · rw [a]
      by_cases ps : p = s
      · rw [ps]
      · exfalso
        have h5 : rcN e src (p + 1) v = true := by
          show (rcN e src p v || an (fun q => rcN e src p q && e q v) 0 61) = true
          have h6 : ¬ an (fun q => rcN e src p q && e q v) 0 61 = false := fun z => by
            rw [an_false] at z
            have := z u (Nat.zero_le _) (by omega)
            rw [c, u2.2] at this
            cases this
          have h7 : an (fun q => rcN e src p q && e q v) 0 61 = true := by simpa using h6
          rw [h7, Bool.or_true]
        rw [rcN_le h5 (by omega)] at h
        cases h
  · rintro ⟨u, hu, h1, h2⟩
    have h3 : rcN e src s u = true := by
      rcases dv_c (e := e) (src := src) (s := s) (v := u) with ⟨a, b⟩ | ⟨p, a, b, c, d⟩
      · omega
      · exact rcN_le c b
    show (rcN e src s v || an (fun q => rcN e src s q && e q v) 0 61) = true
    have h6 : ¬ an (fun q => rcN e src s q && e q v) 0 61 = false := fun z => by
      rw [an_false] at z
      have := z u (Nat.zero_le _) (by omega)
      rw [h3, h2] at this
      cases this
    have h7 : an (fun q => rcN e src s q && e q v) 0 61 = true := by simpa using h6
    rw [h7, Bool.or_true]
theorem dv_s {e : Nat → Nat → Bool} {src s v : Nat} : dv e src (s + 1) v = if dv e src s v = -1 then (if rcN e src (s + 1) v = true then ((s + 1 : Nat) : Int) else -1) else dv e src s v := by
  rcases dv_c (e := e) (src := src) (s := s) (v := v) with ⟨a, b⟩ | ⟨p, a, b, c, d⟩
  · rw [if_pos a]
    by_cases h : rcN e src (s + 1) v = true
    · rw [if_pos h]
      refine dv_eq (Nat.le_refl _) h (fun m hm => ?_)
      have : ¬ rcN e src m v = true := fun z => by rw [rcN_le z (show m ≤ s by omega)] at b; cases b
      simpa using this
    · rw [if_neg h]
      exact dv_no (by simpa using h)
  · rw [if_neg (by omega), a]
    exact dv_eq (by omega) c d
/-- nothing new: then nothing new ever -/
theorem dv_fix {e : Nat → Nat → Bool} {src s : Nat} (he : ∀ u v, 64 ≤ v → e u v = false) (hs : src < 64) (h : ∀ v, v < 64 → rcN e src (s + 1) v = rcN e src s v) (hs2 : s ≤ 61) (v : Nat) : dv e src s v = dsN e src v 62 0 := by
  show dv e src s v = dv e src 61 v
  have hf := rcN_fix h he hs
  rcases dv_c (e := e) (src := src) (s := s) (v := v) with ⟨a, b⟩ | ⟨p, a, b, c, d⟩
  · rw [a]
    have := hf (61 - s) v
    rw [show s + (61 - s) = 61 by omega, b] at this
    exact (dv_no this).symm
  · rw [a]
    exact (dv_eq (by omega) c d).symm
