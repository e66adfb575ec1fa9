/-! the reference finds how far -/
theorem an_true {p : Nat → Bool} {d i : Nat} : an p i d = true ↔ ∃ k, i ≤ k ∧ k < i + d ∧ p k = true := by
  constructor
  · intro h
    have h3 : ¬ an p i d = false := by rw [h]; decide
    rw [an_false] at h3
    obtain ⟨u, hu⟩ := Classical.not_forall.mp h3
    refine ⟨u, ?_, ?_, ?_⟩
    · exact Decidable.byContradiction (fun z => hu (fun z2 _ => absurd z2 z))
    · exact Decidable.byContradiction (fun z => hu (fun _ z2 => absurd z2 z))
    · have : ¬ p u = false := fun z => hu (fun _ _ => z)
      simpa using this
  · rintro ⟨k, h1, h2, h3⟩
    have : ¬ an p i d = false := fun z => by
      rw [an_false] at z
      rw [z k h1 h2] at h3
      cases h3
    simpa using this
theorem cnt_le (p : Nat → Bool) : ∀ n, cnt p n ≤ n := by
  intro n
  induction n with
  | zero => exact Nat.le_refl _
  | succ n ih => show cnt p n + (if p n then 1 else 0) ≤ n + 1; split <;> omega
theorem cnt_mono {p q : Nat → Bool} : ∀ n, (∀ v, v < n → p v = true → q v = true) → cnt p n ≤ cnt q n := by
  intro n
  induction n with
  | zero => intro _; exact Nat.le_refl _
  | succ n ih =>
    intro h
    have h1 := ih (fun v hv => h v (by omega))
    show cnt p n + (if p n then 1 else 0) ≤ cnt q n + (if q n then 1 else 0)
    by_cases c : p n = true
    · rw [c, h n (by omega) c]; simp; exact h1
    · simp at c
      rw [c]; simp; omega
theorem cnt_lt {p q : Nat → Bool} {w : Nat} : ∀ n, (∀ v, v < n → p v = true → q v = true) → w < n → p w = false → q w = true → cnt p n < cnt q n := by
  intro n
  induction n with
  | zero => intro _ h; exact absurd h (Nat.not_lt_zero _)
  | succ n ih =>
    intro h hw hp hq
    show cnt p n + (if p n then 1 else 0) < cnt q n + (if q n then 1 else 0)
    by_cases e : w = n
    · subst e
      have h1 := cnt_mono (p := p) (q := q) w (fun v hv => h v (by omega))
      rw [hp, hq]; simp; omega
    · have h1 := ih (fun v hv => h v (by omega)) (by omega) hp hq
      by_cases c : p n = true
      · rw [c, h n (by omega) c]; simp; exact h1
      · simp at c
        rw [c]; simp; omega
/-- piece k of item i leads from a section of step s to section v -/
def nw (x : Tx) (src s i k v : Nat) : Bool := decide (dv (edg x) src s (secN x i) = (s : Int) ∧ mnt x i k ≠ -1 ∧ secN x (mnt x i k).toNat = v)
def peF (x : Tx) (src s v i : Nat) : Bool := an (fun k => nw x src s i k v) 0 (pcs x i)
def pe (x : Tx) (src s i k v : Nat) : Bool := an (peF x src s v) 0 i || an (fun k => nw x src s i k v) 0 k
theorem pe_k {x : Tx} {src s i k v : Nat} : pe x src s i (k + 1) v = (pe x src s i k v || nw x src s i k v) := by
  unfold pe
  rw [an_last, Nat.zero_add, Bool.or_assoc]
theorem pe_i {x : Tx} {src s i v : Nat} : pe x src s (i + 1) 0 v = pe x src s i (pcs x i) v := by
  unfold pe
  rw [an_last, Nat.zero_add]
  simp [an, peF]
theorem pe_skip {x : Tx} {src s i k v : Nat} (h : dv (edg x) src s (secN x i) ≠ (s : Int)) : pe x src s (i + 1) 0 v = pe x src s i k v := by
  have h0 : ∀ d, an (fun k => nw x src s i k v) 0 d = false := fun d => by
    rw [an_false]
    intro q _ _
    exact decide_eq_false (fun z => h z.1)
  rw [pe_i]
  unfold pe
  rw [h0, h0]
theorem edg_big {x : Tx} (hok : okTx x) {u v : Nat} (hv : 61 ≤ v) : edg x u v = false := by
  unfold edg
  rw [an_false]
  intro i _ hi
  rw [an_false]
  intro k _ _
  refine decide_eq_false (fun z => ?_)
  have hr := @mnt_rng x i k
  have hs := nSec_lt hok (i := (mnt x i k).toNat) (by omega)
  have h60 := hok.1
  omega
theorem pe_all {x : Tx} (hok : okTx x) {src s v : Nat} : pe x src s x.1 0 v = true ↔ ∃ u, u < 61 ∧ dv (edg x) src s u = (s : Int) ∧ edg x u v = true := by
  unfold pe
  rw [show an (fun k => nw x src s x.1 k v) 0 0 = false from rfl, Bool.or_false, an_true]
  constructor
  · rintro ⟨i, h1, h2, h3⟩
    unfold peF at h3
    rw [an_true] at h3
    obtain ⟨k, h4, h5, h6⟩ := h3
    unfold nw at h6
    rw [decide_eq_true_eq] at h6
    obtain ⟨s1, s2⟩ := secN_eq hok (i := i) (by omega)
    have hr := @mnt_rng x i k
    obtain ⟨s3, s4⟩ := secN_eq hok (i := (mnt x i k).toNat) (by omega)
    refine ⟨secN x i, s2, h6.1, ?_⟩
    unfold edg
    rw [an_true]
    refine ⟨i, h1, h2, ?_⟩
    rw [an_true]
    exact ⟨k, h4, h5, decide_eq_true ⟨h6.2.1, by omega, by omega⟩⟩
  · rintro ⟨u, h1, h2, h3⟩
    unfold edg at h3
    rw [an_true] at h3
    obtain ⟨i, h4, h5, h6⟩ := h3
    rw [an_true] at h6
    obtain ⟨k, h7, h8, h9⟩ := h6
    unfold edk at h9
    rw [decide_eq_true_eq] at h9
    obtain ⟨s1, s2⟩ := secN_eq hok (i := i) (by omega)
    have hr := @mnt_rng x i k
    obtain ⟨s3, s4⟩ := secN_eq hok (i := (mnt x i k).toNat) (by omega)
    refine ⟨i, h4, h5, ?_⟩
    unfold peF
    rw [an_true]
    refine ⟨k, h7, h8, ?_⟩
    unfold nw
    exact decide_eq_true ⟨by rw [show secN x i = u by omega]; exact h2, h9.1, by omega⟩
set_option maxHeartbeats 4000000 in
set_option maxRecDepth 8000 in
theorem m_findFar {L : Nat} {h : Hp} {x : Tx} {src : Nat} (g : GG L h) (hc : h.2.1 1085 12 = ((3 : Nat) : Int)) (hR : RepM h 3 x) (hok : okTx x) (nN : NmM h x x.1) (hs : src < 61) : RN 216 0 [some (.inr (.inr (some 1085))), some (.inl (src : Int)), none, none, none, none, none] [] h 0 0 (fun w9 h2 => Sm (fun a _ => a = 1116) h h2 ∧ (∀ v, v < 61 → h2.2.1 1116 v = dsN (edg x) src v 62 0) ∧ w9 = none) := by
  have hm : mrec 216 = some nM216 := rfl
  have n60 := hok.1
  refine r_iconst hm rfl (k := ?_)
  refine r_istore_n hm rfl (k := ?_)
  suffices LP : ∀ (d k : Nat) (h1 : Hp), k + d = 61 → Sm (fun a _ => a = 1116) h h1 → (∀ v, v < k → h1.2.1 1116 v = -1) → RN 216 2 [some (.inr (.inr (some 1085))), some (.inl (src : Int)), some (.inl (k : Int)), none, none, none, none] [] h1 0 0 (fun w9 h2 => Sm (fun a _ => a = 1116) h h2 ∧ (∀ v, v < 61 → h2.2.1 1116 v = dsN (edg x) src v 62 0) ∧ w9 = none) from LP 61 0 h (by omega) Sm.refl (fun v hv => absurd hv (Nat.not_lt_zero _))
  refine fun d => Nat.strongRecOn d (fun d ih => ?_)
  intro k h1 hd S1 eM
  have g1 := S1.gg g
  have hc1 := (S1.2.2 1085 12 (by omega)).trans hc
  have hR1 := S1.repM (fun a k q9 => by omega) hR
  obtain ⟨M0, M1, M2, M3, M4, Q0, Q1, Q2, S0, N0, N1⟩ := hR1.use
  have eN := fun q (hq : q < x.1) => (S1.2.2 1097 q (by omega)).trans (nN q hq).1
  refine r_iload_n hm rfl (k := ?_)
  refine r_bipush hm rfl (k := ?_)
  refine r_icmp_ge (t := 21) hm rfl rfl (fun c5 => ?_) (fun c5 => ?_)
  · refine r_aload_n hm rfl (k := ?_)
    refine r_getR (hm := hm) (hf := rfl) (hd := rfl) (hs := (by first | assumption | exact (g1.1 _).trans rfl)) (hv := (by first | exact putI_eq | exact (putI_ne (by omega)).trans (by first | first | assumption | exact g1.2 _ _ _ rfl | exact Q0 _ _ (by omega) (by omega) | exact Q1 _ _ (by omega) (by omega) | exact eN _ (by omega) | exact ev1 | exact ev2) | first | assumption | exact g1.2 _ _ _ rfl | exact Q0 _ _ (by omega) (by omega) | exact Q1 _ _ (by omega) (by omega) | exact eN _ (by omega) | exact ev1 | exact ev2)) (k := ?_)
    refine r_iload_n hm rfl (k := ?_)
    refine r_iconst hm rfl (k := ?_)
    refine r_iast (hm := hm) (hf := rfl) (h28 := (by omega)) (hs := (by first | assumption | exact (g1.1 _).trans rfl)) (kk := src) (hi := by omega) (hn := (by omega)) (k := ?_)
    refine r_iconst hm rfl (k := ?_)
    refine r_istore_n hm rfl (k := ?_)
    refine r_iconst hm rfl (k := ?_)
    refine r_istore_n hm rfl (k := ?_)
    suffices LP : ∀ (d s : Nat) (h1 : Hp) (z4 z5 z6 : Option Vl), s + d = 61 → s + 1 ≤ cnt (rcN (edg x) src s) 61 → Sm (fun a _ => a = 1116) h h1 → (∀ v, v < 61 → h1.2.1 1116 v = dv (edg x) src s v) → RN 216 32 [some (.inr (.inr (some 1085))), some (.inl (src : Int)), some (.inl 1), some (.inl (s : Int)), z4, z5, z6] [] h1 0 0 (fun w9 h2 => Sm (fun a _ => a = 1116) h h2 ∧ (∀ v, v < 61 → h2.2.1 1116 v = dsN (edg x) src v 62 0) ∧ w9 = none) from LP 61 0 _ _ _ _ (by omega) (by
      have c0 := cnt_lt (p := fun _ => false) (q := rcN (edg x) src 0) (w := src) 61 (fun v _ z => by cases z) hs rfl (decide_eq_true rfl)
      omega) (Sm.put S1 rfl) (fun v hv => by
      by_cases ev : v = src
      · subst ev
        rw [putI_eq]
        exact (dv_eq (Nat.le_refl _) (show rcN (edg x) v 0 v = true from decide_eq_true rfl) (fun m hm => absurd hm (Nat.not_lt_zero _))).symm
      · rw [putI_ne (by omega), eM v (by omega)]
        exact (dv_no (show rcN (edg x) src 0 v = false from decide_eq_false ev)).symm)
    clear g1 hc1 hR1 M0 M1 M2 M3 M4 Q0 Q1 Q2 S0 N0 N1 eN S1 eM ih
    refine fun d => Nat.strongRecOn d (fun d ih => ?_)
    intro s h1 z4 z5 z6 hd hcn S1 eD
    have hcm := cnt_le (rcN (edg x) src s) 61
    have g1 := S1.gg g
    have hc1 := (S1.2.2 1085 12 (by omega)).trans hc
    have hR1 := S1.repM (fun a k q9 => by omega) hR
    obtain ⟨M0, M1, M2, M3, M4, Q0, Q1, Q2, S0, N0, N1⟩ := hR1.use
    have eN := fun q (hq : q < x.1) => (S1.2.2 1097 q (by omega)).trans (nN q hq).1
    refine r_iload_n hm rfl (k := ?_)
    refine r_if_eq (t := 183) hm rfl rfl (fun c33 => ?_) (fun c33 => ?_)
    · exfalso; omega
    · refine r_iconst hm rfl (k := ?_)
      refine r_istore_n hm rfl (k := ?_)
      refine r_iconst hm rfl (k := ?_)
      refine r_istore hm rfl (k := ?_)
      suffices LP : ∀ (d2 i : Nat) (h1 : Hp) (b : Int) (z5 z6 : Option Vl), i + d2 = x.1 → Sm (fun a _ => a = 1116) h h1 → (∀ v, v < 61 → h1.2.1 1116 v = if dv (edg x) src s v = -1 ∧ pe x src s i 0 v = true then (s : Int) + 1 else dv (edg x) src s v) → ((b = 0 ∧ ∀ v, v < 61 → dv (edg x) src s v = -1 → pe x src s i 0 v = false) ∨ (b = 1 ∧ ∃ v, v < 61 ∧ dv (edg x) src s v = -1 ∧ pe x src s i 0 v = true)) → RN 216 41 [some (.inr (.inr (some 1085))), some (.inl (src : Int)), some (.inl b), some (.inl (s : Int)), some (.inl (i : Int)), z5, z6] [] h1 0 0 (fun w9 h2 => Sm (fun a _ => a = 1116) h h2 ∧ (∀ v, v < 61 → h2.2.1 1116 v = dsN (edg x) src v 62 0) ∧ w9 = none) from LP x.1 0 _ 0 _ _ (by omega) S1 (fun v hv => by rw [eD v hv, if_neg (fun z => by have := z.2; simp [pe, an] at this)]) (Or.inl ⟨rfl, fun v _ _ => rfl⟩)
      clear g1 hc1 hR1 M0 M1 M2 M3 M4 Q0 Q1 Q2 S0 N0 N1 eN S1 eD
      refine fun d2 => Nat.strongRecOn d2 (fun d2 ih2 => ?_)
      intro i h1 b z5 z6 hd2 S1 eV eB
      have g1 := S1.gg g
      have hc1 := (S1.2.2 1085 12 (by omega)).trans hc
      have hR1 := S1.repM (fun a k q9 => by omega) hR
      obtain ⟨M0, M1, M2, M3, M4, Q0, Q1, Q2, S0, N0, N1⟩ := hR1.use
      have eN := fun q (hq : q < x.1) => (S1.2.2 1097 q (by omega)).trans (nN q hq).1
      refine r_iload hm rfl (k := ?_)
      refine r_aload_n hm rfl (k := ?_)
      refine r_getR (hm := hm) (hf := rfl) (hd := rfl) (hs := (by first | assumption | exact (g1.1 _).trans rfl)) (hv := (by first | exact putI_eq | exact (putI_ne (by omega)).trans (by first | first | assumption | exact g1.2 _ _ _ rfl | exact Q0 _ _ (by omega) (by omega) | exact Q1 _ _ (by omega) (by omega) | exact eN _ (by omega) | exact ev1 | exact ev2) | first | assumption | exact g1.2 _ _ _ rfl | exact Q0 _ _ (by omega) (by omega) | exact Q1 _ _ (by omega) (by omega) | exact eN _ (by omega) | exact ev1 | exact ev2)) (k := ?_)
      refine r_iconst hm rfl (k := ?_)
      refine r_iald (hm := hm) (hf := rfl) (hs := (by first | assumption | exact (g1.1 _).trans rfl)) (kk := 3) (hi := by omega) (hn := (by omega)) (hv := (by first | exact putI_eq | exact (putI_ne (by omega)).trans (by first | first | assumption | exact g1.2 _ _ _ rfl | exact Q0 _ _ (by omega) (by omega) | exact Q1 _ _ (by omega) (by omega) | exact eN _ (by omega) | exact ev1 | exact ev2) | first | assumption | exact g1.2 _ _ _ rfl | exact Q0 _ _ (by omega) (by omega) | exact Q1 _ _ (by omega) (by omega) | exact eN _ (by omega) | exact ev1 | exact ev2)) (k := ?_)
      refine r_icmp_ge (t := 177) hm rfl rfl (fun c49 => ?_) (fun c49 => ?_)
      · refine r_iinc hm rfl (hr := (by omega)) (k := ?_)
        refine r_goto (t := 32) hm rfl (k := ?_)
        have ei : i = x.1 := by omega
        subst ei
        have hnew : ∀ v, v < 61 → dv (edg x) src s v = -1 → (rcN (edg x) src (s + 1) v = true ↔ pe x src s x.1 0 v = true) := fun v hv z => by
          have z2 : rcN (edg x) src s v = false := by
            rcases @dv_c (edg x) src s v with y9 | ⟨p, y9, -⟩
            · exact y9.2
            · omega
          rw [rcN_new z2, pe_all hok]
        have eD2 : ∀ v, v < 61 → h1.2.1 1116 v = dv (edg x) src (s + 1) v := fun v hv => by
          rw [eV v hv, dv_s]
          by_cases z : dv (edg x) src s v = -1
          · rw [if_pos z]
            by_cases y9 : pe x src s x.1 0 v = true
            · rw [if_pos ⟨z, y9⟩, if_pos ((hnew v hv z).mpr y9)]; rfl
            · rw [if_neg (fun w9 => y9 w9.2), if_neg (fun w9 => y9 ((hnew v hv z).mp w9)), z]
          · rw [if_neg (fun w9 => z w9.1), if_neg z]
        rcases eB with ⟨e1, e2⟩ | ⟨e1, v0, e2, e3, e4⟩
        · subst e1
          refine r_iload_n hm rfl (k := ?_)
          refine r_if_eq (t := 183) hm rfl rfl (fun c33 => ?_) (fun c33 => ?_)
          · refine r_return hm rfl rfl (Nat.le_of_ble_eq_true rfl) (Nat.le_of_ble_eq_true rfl) ?_
            refine ⟨S1, fun v hv => ?_, rfl⟩
            have hst : ∀ v, v < 64 → rcN (edg x) src (s + 1) v = rcN (edg x) src s v := fun v _ => by
              cases hz : rcN (edg x) src s v with
              | true => exact rcN_le hz (by omega)
              | false =>
                have hn : ¬ rcN (edg x) src (s + 1) v = true := fun z => by
                  obtain ⟨u, u1, u2, u3⟩ := (rcN_new hz).mp z
                  by_cases hv2 : v < 61
                  · have := e2 v hv2 (dv_no hz)
                    rw [(pe_all hok).mpr ⟨u, u1, u2, u3⟩] at this
                    cases this
                  · rw [edg_big hok (by omega)] at u3; cases u3
                simpa using hn
            rw [eD2 v hv, dv_s]
            have hfx := dv_fix (s := s) (fun u v hv => edg_big hok (by omega)) (by omega) hst (by omega) v
            rw [← hfx]
            by_cases z : dv (edg x) src s v = -1
            · rw [if_pos z, z]
              have z2 : rcN (edg x) src s v = false := by
                rcases @dv_c (edg x) src s v with y9 | ⟨p, y9, -⟩
                · exact y9.2
                · omega
              rw [if_neg (fun w9 => by rw [hst v (by omega), z2] at w9; cases w9)]
            · rw [if_neg z]
          · exfalso; omega
        · subst e1
          have hrc : rcN (edg x) src s v0 = false := by
            rcases @dv_c (edg x) src s v0 with y9 | ⟨p, y9, -⟩
            · exact y9.2
            · omega
          have hlt := cnt_lt (p := rcN (edg x) src s) (q := rcN (edg x) src (s + 1)) (w := v0) 61 (fun v _ z => rcN_le z (by omega)) e2 hrc ((hnew v0 e2 e3).mpr e4)
          exact ih (d - 1) (by omega) (s + 1) h1 _ _ _ (by omega) (by omega) S1 eD2
      · have hi : i < x.1 := by omega
        obtain ⟨ep, ep2⟩ := pcs_eq hok hi
        obtain ⟨q1, q2⟩ := secN_eq hok hi
        refine r_iconst hm rfl (k := ?_)
        refine r_istore hm rfl (k := ?_)
        suffices LP : ∀ (d3 k : Nat) (h1 : Hp) (b : Int) (z6 : Option Vl), k + d3 = pcs x i → Sm (fun a _ => a = 1116) h h1 → (∀ v, v < 61 → h1.2.1 1116 v = if dv (edg x) src s v = -1 ∧ pe x src s i k v = true then (s : Int) + 1 else dv (edg x) src s v) → ((b = 0 ∧ ∀ v, v < 61 → dv (edg x) src s v = -1 → pe x src s i k v = false) ∨ (b = 1 ∧ ∃ v, v < 61 ∧ dv (edg x) src s v = -1 ∧ pe x src s i k v = true)) → RN 216 55 [some (.inr (.inr (some 1085))), some (.inl (src : Int)), some (.inl b), some (.inl (s : Int)), some (.inl (i : Int)), some (.inl (k : Int)), z6] [] h1 0 0 (fun w9 h2 => Sm (fun a _ => a = 1116) h h2 ∧ (∀ v, v < 61 → h2.2.1 1116 v = dsN (edg x) src v 62 0) ∧ w9 = none) from LP (pcs x i) 0 _ _ _ (by omega) S1 eV eB
        clear g1 hc1 hR1 M0 M1 M2 M3 M4 Q0 Q1 Q2 S0 N0 N1 eN S1 eV eB
        refine fun d3 => Nat.strongRecOn d3 (fun d3 ih3 => ?_)
        intro k h1 b z6 hd3 S1 eV eB
        have g1 := S1.gg g
        have hc1 := (S1.2.2 1085 12 (by omega)).trans hc
        have hR1 := S1.repM (fun a k q9 => by omega) hR
        obtain ⟨M0, M1, M2, M3, M4, Q0, Q1, Q2, S0, N0, N1⟩ := hR1.use
        have eN := fun q (hq : q < x.1) => (S1.2.2 1097 q (by omega)).trans (nN q hq).1
        refine r_iload hm rfl (k := ?_)
        refine r_aload_n hm rfl (k := ?_)
        refine r_iload hm rfl (k := ?_)
        refine r_callv (j2 := 181) hm rfl rfl rfl rfl rfl rfl (by first | assumption | exact (g1.1 _).trans rfl) (Nat.le_of_ble_eq_true rfl) (Nat.le_of_ble_eq_true rfl) rfl ⟨Nat.le_of_ble_eq_true rfl, Nat.le_of_ble_eq_true rfl, Nat.le_of_ble_eq_true rfl, Nat.le_of_ble_eq_true rfl, Nat.le_of_ble_eq_true rfl⟩ rfl (m_piecesOf g1 hc1 (by omega) hR1 (i := i) (by omega)) (fun v9 h9 p9 => ?_)
        obtain ⟨e1, e2⟩ := p9
        subst e2
        replace e1 := e1.symm
        subst e1
        change RN 216 63 _ _ _ 0 0 _
        dsimp only [Option.toList, List.cons_append, List.nil_append]
        refine r_icmp_ge (t := 171) hm rfl rfl (fun c63 => ?_) (fun c63 => ?_)
        · refine r_iinc hm rfl (hr := (by omega)) (k := ?_)
          refine r_goto (t := 41) hm rfl (k := ?_)
          have ek : k = pcs x i := by omega
          subst ek
          exact ih2 (d2 - 1) (by omega) (i + 1) h1 b _ _ (by omega) S1 (fun v hv => by rw [pe_i]; exact eV v hv) (by simpa only [pe_i] using eB)
        · have hz := hok.2.2.1 i k hi (by omega)
          unfold okPc at hz
          have hmr := @mnt_rng x i k
          have ev1 := eV (secN x i) q2
          have ed1 := @dv_c (edg x) src s (secN x i)
          refine r_aload_n hm rfl (k := ?_)
          refine r_getR (hm := hm) (hf := rfl) (hd := rfl) (hs := (by first | assumption | exact (g1.1 _).trans rfl)) (hv := (by first | exact putI_eq | exact (putI_ne (by omega)).trans (by first | first | assumption | exact g1.2 _ _ _ rfl | exact Q0 _ _ (by omega) (by omega) | exact Q1 _ _ (by omega) (by omega) | exact eN _ (by omega) | exact ev1 | exact ev2) | first | assumption | exact g1.2 _ _ _ rfl | exact Q0 _ _ (by omega) (by omega) | exact Q1 _ _ (by omega) (by omega) | exact eN _ (by omega) | exact ev1 | exact ev2)) (k := ?_)
          refine r_aload_n hm rfl (k := ?_)
          refine r_getR (hm := hm) (hf := rfl) (hd := rfl) (hs := (by first | assumption | exact (g1.1 _).trans rfl)) (hv := (by first | exact putI_eq | exact (putI_ne (by omega)).trans (by first | first | assumption | exact g1.2 _ _ _ rfl | exact Q0 _ _ (by omega) (by omega) | exact Q1 _ _ (by omega) (by omega) | exact eN _ (by omega) | exact ev1 | exact ev2) | first | assumption | exact g1.2 _ _ _ rfl | exact Q0 _ _ (by omega) (by omega) | exact Q1 _ _ (by omega) (by omega) | exact eN _ (by omega) | exact ev1 | exact ev2)) (k := ?_)
          refine r_iload hm rfl (k := ?_)
          refine r_iald (hm := hm) (hf := rfl) (hs := (by first | assumption | exact (g1.1 _).trans rfl)) (hi := rfl) (hn := (by omega)) (hv := (by first | exact putI_eq | exact (putI_ne (by omega)).trans (by first | first | assumption | exact g1.2 _ _ _ rfl | exact Q0 _ _ (by omega) (by omega) | exact Q1 _ _ (by omega) (by omega) | exact eN _ (by omega) | exact ev1 | exact ev2) | first | assumption | exact g1.2 _ _ _ rfl | exact Q0 _ _ (by omega) (by omega) | exact Q1 _ _ (by omega) (by omega) | exact eN _ (by omega) | exact ev1 | exact ev2)) (k := ?_)
          refine r_iconst hm rfl (k := ?_)
          refine r_iadd hm rfl (hr := (by omega)) (k := ?_)
          refine r_iald (hm := hm) (hf := rfl) (hs := (by first | assumption | exact (g1.1 _).trans rfl)) (kk := secN x i) (hi := by omega) (hn := (by omega)) (hv := (by first | exact putI_eq | exact (putI_ne (by omega)).trans (by first | first | assumption | exact g1.2 _ _ _ rfl | exact Q0 _ _ (by omega) (by omega) | exact Q1 _ _ (by omega) (by omega) | exact eN _ (by omega) | exact ev1 | exact ev2) | first | assumption | exact g1.2 _ _ _ rfl | exact Q0 _ _ (by omega) (by omega) | exact Q1 _ _ (by omega) (by omega) | exact eN _ (by omega) | exact ev1 | exact ev2)) (k := ?_)
          refine r_iload_n hm rfl (k := ?_)
          refine r_icmp_ne (t := 171) hm rfl rfl (fun c81 => ?_) (fun c81 => ?_)
          · refine r_iinc hm rfl (hr := (by omega)) (k := ?_)
            refine r_goto (t := 41) hm rfl (k := ?_)
            have hds : dv (edg x) src s (secN x i) ≠ (s : Int) := fun z => by
              have c9 := c81
              rw [if_neg (fun w9 => by omega)] at c9
              exact c9 z
            exact ih2 (d2 - 1) (by omega) (i + 1) h1 b _ _ (by omega) S1 (fun v hv => by rw [pe_skip (k := k) hds]; exact eV v hv) (by simpa only [pe_skip (k := k) hds] using eB)
          · have hds : dv (edg x) src s (secN x i) = (s : Int) := by
              have c9 := c81
              rw [Decidable.not_not] at c9
              by_cases z : dv (edg x) src s (secN x i) = -1 ∧ pe x src s i k (secN x i) = true
              · rw [if_pos z] at c9; omega
              · rw [if_neg z] at c9; exact c9
            refine r_aload_n hm rfl (k := ?_)
            refine r_getR (hm := hm) (hf := rfl) (hd := rfl) (hs := (by first | assumption | exact (g1.1 _).trans rfl)) (hv := (by first | exact putI_eq | exact (putI_ne (by omega)).trans (by first | first | assumption | exact g1.2 _ _ _ rfl | exact Q0 _ _ (by omega) (by omega) | exact Q1 _ _ (by omega) (by omega) | exact eN _ (by omega) | exact ev1 | exact ev2) | first | assumption | exact g1.2 _ _ _ rfl | exact Q0 _ _ (by omega) (by omega) | exact Q1 _ _ (by omega) (by omega) | exact eN _ (by omega) | exact ev1 | exact ev2)) (k := ?_)
            refine r_aload_n hm rfl (k := ?_)
            refine r_iload hm rfl (k := ?_)
            refine r_iload hm rfl (k := ?_)
            refine r_callv (j2 := 186) hm rfl rfl rfl rfl rfl rfl (by first | assumption | exact (g1.1 _).trans rfl) (Nat.le_of_ble_eq_true rfl) (Nat.le_of_ble_eq_true rfl) rfl ⟨Nat.le_of_ble_eq_true rfl, Nat.le_of_ble_eq_true rfl, Nat.le_of_ble_eq_true rfl, Nat.le_of_ble_eq_true rfl, Nat.le_of_ble_eq_true rfl⟩ rfl (m_place g1 hc1 (by omega) hR1 (i := i) (k := k) (by omega) (by omega)) (fun v9 h9 p9 => ?_)
            obtain ⟨e1, e2⟩ := p9
            subst e2
            replace e1 := e1.symm
            subst e1
            change RN 216 96 _ _ _ 0 0 _
            dsimp only [Option.toList, List.cons_append, List.nil_append]
            refine r_iald (hm := hm) (hf := rfl) (hs := (by first | assumption | exact (g1.1 _).trans rfl)) (hi := rfl) (hn := (by omega)) (hv := (by first | exact putI_eq | exact (putI_ne (by omega)).trans (by first | first | assumption | exact g1.2 _ _ _ rfl | exact Q0 _ _ (by omega) (by omega) | exact Q1 _ _ (by omega) (by omega) | exact eN _ (by omega) | exact ev1 | exact ev2) | first | assumption | exact g1.2 _ _ _ rfl | exact Q0 _ _ (by omega) (by omega) | exact Q1 _ _ (by omega) (by omega) | exact eN _ (by omega) | exact ev1 | exact ev2)) (k := ?_)
            refine r_iconst hm rfl (k := ?_)
            refine r_icmp_ne (t := 121) hm rfl rfl (fun c98 => ?_) (fun c98 => ?_)
            · refine r_iconst hm rfl (k := ?_)
              refine r_istore hm rfl (k := ?_)
              refine r_iload hm rfl (k := ?_)
              refine r_if_lt (t := 165) hm rfl rfl (fun c126 => ?_) (fun c126 => ?_)
              · refine r_iinc hm rfl (hr := (by omega)) (k := ?_)
                refine r_goto (t := 55) hm rfl (k := ?_)
                have enw : ∀ v, nw x src s i k v = false := fun v => decide_eq_false (fun z => by have z2 := z.2.1; unfold mnt at z2; rw [if_neg (by omega)] at z2; omega)
                exact ih3 (d3 - 1) (by omega) (k + 1) h1 b _ (by omega) S1 (fun v hv => by rw [pe_k, enw, Bool.or_false]; exact eV v hv) (by simpa only [pe_k, enw, Bool.or_false] using eB)
              · have hq9 : (mnt x i k).toNat < x.1 := by omega
                have hi9 : mnt x i k = (((mnt x i k).toNat : Nat) : Int) := by omega
                obtain ⟨t1, t2⟩ := secN_eq hok (i := (mnt x i k).toNat) (by omega)
                have ev2 := eV (secN x (mnt x i k).toNat) t2
                have enw : ∀ v, nw x src s i k v = decide (secN x (mnt x i k).toNat = v) := fun v => by
                  unfold nw
                  by_cases z : secN x (mnt x i k).toNat = v
                  · rw [decide_eq_true z]; exact decide_eq_true ⟨hds, by omega, z⟩
                  · rw [decide_eq_false z]; exact decide_eq_false (fun w9 => z w9.2.2)
                refine r_aload_n hm rfl (k := ?_)
                refine r_getR (hm := hm) (hf := rfl) (hd := rfl) (hs := (by first | assumption | exact (g1.1 _).trans rfl)) (hv := (by first | exact putI_eq | exact (putI_ne (by omega)).trans (by first | first | assumption | exact g1.2 _ _ _ rfl | exact Q0 _ _ (by omega) (by omega) | exact Q1 _ _ (by omega) (by omega) | exact eN _ (by omega) | exact ev1 | exact ev2) | first | assumption | exact g1.2 _ _ _ rfl | exact Q0 _ _ (by omega) (by omega) | exact Q1 _ _ (by omega) (by omega) | exact eN _ (by omega) | exact ev1 | exact ev2)) (k := ?_)
                refine r_aload_n hm rfl (k := ?_)
                refine r_getR (hm := hm) (hf := rfl) (hd := rfl) (hs := (by first | assumption | exact (g1.1 _).trans rfl)) (hv := (by first | exact putI_eq | exact (putI_ne (by omega)).trans (by first | first | assumption | exact g1.2 _ _ _ rfl | exact Q0 _ _ (by omega) (by omega) | exact Q1 _ _ (by omega) (by omega) | exact eN _ (by omega) | exact ev1 | exact ev2) | first | assumption | exact g1.2 _ _ _ rfl | exact Q0 _ _ (by omega) (by omega) | exact Q1 _ _ (by omega) (by omega) | exact eN _ (by omega) | exact ev1 | exact ev2)) (k := ?_)
                refine r_iload hm rfl (k := ?_)
                refine r_iald (hm := hm) (hf := rfl) (hs := (by first | assumption | exact (g1.1 _).trans rfl)) (kk := (mnt x i k).toNat) (hi := by omega) (hn := (by omega)) (hv := (by first | exact putI_eq | exact (putI_ne (by omega)).trans (by first | first | assumption | exact g1.2 _ _ _ rfl | exact Q0 _ _ (by omega) (by omega) | exact Q1 _ _ (by omega) (by omega) | exact eN _ (by omega) | exact ev1 | exact ev2) | first | assumption | exact g1.2 _ _ _ rfl | exact Q0 _ _ (by omega) (by omega) | exact Q1 _ _ (by omega) (by omega) | exact eN _ (by omega) | exact ev1 | exact ev2)) (k := ?_)
                refine r_iconst hm rfl (k := ?_)
                refine r_iadd hm rfl (hr := (by omega)) (k := ?_)
                refine r_iald (hm := hm) (hf := rfl) (hs := (by first | assumption | exact (g1.1 _).trans rfl)) (kk := secN x (mnt x i k).toNat) (hi := by omega) (hn := (by omega)) (hv := (by first | exact putI_eq | exact (putI_ne (by omega)).trans (by first | first | assumption | exact g1.2 _ _ _ rfl | exact Q0 _ _ (by omega) (by omega) | exact Q1 _ _ (by omega) (by omega) | exact eN _ (by omega) | exact ev1 | exact ev2) | first | assumption | exact g1.2 _ _ _ rfl | exact Q0 _ _ (by omega) (by omega) | exact Q1 _ _ (by omega) (by omega) | exact eN _ (by omega) | exact ev1 | exact ev2)) (k := ?_)
                refine r_if_ge (t := 165) hm rfl rfl (fun c143 => ?_) (fun c143 => ?_)
                · refine r_iinc hm rfl (hr := (by omega)) (k := ?_)
                  refine r_goto (t := 55) hm rfl (k := ?_)
                  have hold : dv (edg x) src s (secN x (mnt x i k).toNat) = -1 → pe x src s i k (secN x (mnt x i k).toNat) = true := fun z => by
                    have c9 := c143
                    by_cases y9 : pe x src s i k (secN x (mnt x i k).toNat) = true
                    · exact y9
                    · rw [if_neg (fun w9 => y9 w9.2), z] at c9; omega
                  have same : ∀ v, dv (edg x) src s v = -1 → pe x src s i (k + 1) v = pe x src s i k v := fun v hv => by
                    rw [pe_k, enw]
                    by_cases z : secN x (mnt x i k).toNat = v
                    · subst z
                      rw [hold hv, Bool.true_or]
                    · rw [decide_eq_false z, Bool.or_false]
                  refine ih3 (d3 - 1) (by omega) (k + 1) h1 b _ (by omega) S1 (fun v hv => ?_) ?_
                  · rw [eV v hv]
                    by_cases z : dv (edg x) src s v = -1
                    · rw [same v z]
                    · rw [if_neg (fun w9 => z w9.1), if_neg (fun w9 => z w9.1)]
                  · rcases eB with ⟨e1, e2⟩ | ⟨e1, v, e2, e3, e4⟩
                    · exact Or.inl ⟨e1, fun v hv z => by rw [same v z]; exact e2 v hv z⟩
                    · exact Or.inr ⟨e1, v, e2, e3, by rw [same v e3]; exact e4⟩
                · refine r_aload_n hm rfl (k := ?_)
                  refine r_getR (hm := hm) (hf := rfl) (hd := rfl) (hs := (by first | assumption | exact (g1.1 _).trans rfl)) (hv := (by first | exact putI_eq | exact (putI_ne (by omega)).trans (by first | first | assumption | exact g1.2 _ _ _ rfl | exact Q0 _ _ (by omega) (by omega) | exact Q1 _ _ (by omega) (by omega) | exact eN _ (by omega) | exact ev1 | exact ev2) | first | assumption | exact g1.2 _ _ _ rfl | exact Q0 _ _ (by omega) (by omega) | exact Q1 _ _ (by omega) (by omega) | exact eN _ (by omega) | exact ev1 | exact ev2)) (k := ?_)
                  refine r_aload_n hm rfl (k := ?_)
                  refine r_getR (hm := hm) (hf := rfl) (hd := rfl) (hs := (by first | assumption | exact (g1.1 _).trans rfl)) (hv := (by first | exact putI_eq | exact (putI_ne (by omega)).trans (by first | first | assumption | exact g1.2 _ _ _ rfl | exact Q0 _ _ (by omega) (by omega) | exact Q1 _ _ (by omega) (by omega) | exact eN _ (by omega) | exact ev1 | exact ev2) | first | assumption | exact g1.2 _ _ _ rfl | exact Q0 _ _ (by omega) (by omega) | exact Q1 _ _ (by omega) (by omega) | exact eN _ (by omega) | exact ev1 | exact ev2)) (k := ?_)
                  refine r_iload hm rfl (k := ?_)
                  refine r_iald (hm := hm) (hf := rfl) (hs := (by first | assumption | exact (g1.1 _).trans rfl)) (kk := (mnt x i k).toNat) (hi := by omega) (hn := (by omega)) (hv := (by first | exact putI_eq | exact (putI_ne (by omega)).trans (by first | first | assumption | exact g1.2 _ _ _ rfl | exact Q0 _ _ (by omega) (by omega) | exact Q1 _ _ (by omega) (by omega) | exact eN _ (by omega) | exact ev1 | exact ev2) | first | assumption | exact g1.2 _ _ _ rfl | exact Q0 _ _ (by omega) (by omega) | exact Q1 _ _ (by omega) (by omega) | exact eN _ (by omega) | exact ev1 | exact ev2)) (k := ?_)
                  refine r_iconst hm rfl (k := ?_)
                  refine r_iadd hm rfl (hr := (by omega)) (k := ?_)
                  refine r_iload_n hm rfl (k := ?_)
                  refine r_iconst hm rfl (k := ?_)
                  refine r_iadd hm rfl (hr := (by omega)) (k := ?_)
                  refine r_iast (hm := hm) (hf := rfl) (h28 := (by omega)) (hs := (by first | assumption | exact (g1.1 _).trans rfl)) (kk := secN x (mnt x i k).toNat) (hi := by omega) (hn := (by omega)) (k := ?_)
                  refine r_iconst hm rfl (k := ?_)
                  refine r_istore_n hm rfl (k := ?_)
                  refine r_iinc hm rfl (hr := (by omega)) (k := ?_)
                  refine r_goto (t := 55) hm rfl (k := ?_)
                  have hdn : dv (edg x) src s (secN x (mnt x i k).toNat) = -1 := by
                    have c9 := c143
                    rcases @dv_c (edg x) src s (secN x (mnt x i k).toNat) with z | ⟨p, z, -⟩
                    · exact z.1
                    · exfalso
                      rw [if_neg (fun w9 => by omega), z] at c9
                      omega
                  refine ih3 (d3 - 1) (by omega) (k + 1) _ 1 _ (by omega) (Sm.put S1 rfl) (fun v hv => ?_) (Or.inr ⟨rfl, secN x (mnt x i k).toNat, t2, hdn, by rw [pe_k, enw, decide_eq_true rfl, Bool.or_true]⟩)
                  rw [pe_k, enw]
                  by_cases z : v = secN x (mnt x i k).toNat
                  · subst z
                    rw [putI_eq, decide_eq_true rfl, Bool.or_true, if_pos ⟨hdn, rfl⟩]
                  · rw [putI_ne (by omega), eV v hv, decide_eq_false (fun w9 => z w9.symm), Bool.or_false]
            · have qM := m_meant g1 hc1 (by omega) hR1 (m := x.2.2.1 1 i k) (by omega)
              rw [show fi (fun q9 => x.2.1 3 q9 == x.2.2.1 1 i k) 0 x.1 = mnt x i k from (if_pos (by omega)).symm] at qM
              refine r_aload_n hm rfl (k := ?_)
              refine r_aload_n hm rfl (k := ?_)
              refine r_getR (hm := hm) (hf := rfl) (hd := rfl) (hs := (by first | assumption | exact (g1.1 _).trans rfl)) (hv := (by first | exact putI_eq | exact (putI_ne (by omega)).trans (by first | first | assumption | exact g1.2 _ _ _ rfl | exact Q0 _ _ (by omega) (by omega) | exact Q1 _ _ (by omega) (by omega) | exact eN _ (by omega) | exact ev1 | exact ev2) | first | assumption | exact g1.2 _ _ _ rfl | exact Q0 _ _ (by omega) (by omega) | exact Q1 _ _ (by omega) (by omega) | exact eN _ (by omega) | exact ev1 | exact ev2)) (k := ?_)
              refine r_aload_n hm rfl (k := ?_)
              refine r_iload hm rfl (k := ?_)
              refine r_iload hm rfl (k := ?_)
              refine r_callv (j2 := 186) hm rfl rfl rfl rfl rfl rfl (by first | assumption | exact (g1.1 _).trans rfl) (Nat.le_of_ble_eq_true rfl) (Nat.le_of_ble_eq_true rfl) rfl ⟨Nat.le_of_ble_eq_true rfl, Nat.le_of_ble_eq_true rfl, Nat.le_of_ble_eq_true rfl, Nat.le_of_ble_eq_true rfl, Nat.le_of_ble_eq_true rfl⟩ rfl (m_place g1 hc1 (by omega) hR1 (i := i) (k := k) (by omega) (by omega)) (fun v9 h9 p9 => ?_)
              obtain ⟨e1, e2⟩ := p9
              subst e2
              replace e1 := e1.symm
              subst e1
              change RN 216 114 _ _ _ 0 0 _
              dsimp only [Option.toList, List.cons_append, List.nil_append]
              refine r_iald (hm := hm) (hf := rfl) (hs := (by first | assumption | exact (g1.1 _).trans rfl)) (hi := rfl) (hn := (by omega)) (hv := (by first | exact putI_eq | exact (putI_ne (by omega)).trans (by first | first | assumption | exact g1.2 _ _ _ rfl | exact Q0 _ _ (by omega) (by omega) | exact Q1 _ _ (by omega) (by omega) | exact eN _ (by omega) | exact ev1 | exact ev2) | first | assumption | exact g1.2 _ _ _ rfl | exact Q0 _ _ (by omega) (by omega) | exact Q1 _ _ (by omega) (by omega) | exact eN _ (by omega) | exact ev1 | exact ev2)) (k := ?_)
              refine r_callv (j2 := 199) hm rfl rfl rfl rfl rfl rfl (by first | assumption | exact (g1.1 _).trans rfl) (Nat.le_of_ble_eq_true rfl) (Nat.le_of_ble_eq_true rfl) rfl ⟨Nat.le_of_ble_eq_true rfl, Nat.le_of_ble_eq_true rfl, Nat.le_of_ble_eq_true rfl, Nat.le_of_ble_eq_true rfl, Nat.le_of_ble_eq_true rfl⟩ rfl (qM) (fun v9 h9 p9 => ?_)
              obtain ⟨e1, e2⟩ := p9
              subst e2
              replace e1 := e1.symm
              subst e1
              change RN 216 118 _ _ _ 0 0 _
              dsimp only [Option.toList, List.cons_append, List.nil_append]
              refine r_goto (t := 122) hm rfl (k := ?_)
              refine r_istore hm rfl (k := ?_)
              refine r_iload hm rfl (k := ?_)
              refine r_if_lt (t := 165) hm rfl rfl (fun c126 => ?_) (fun c126 => ?_)
              · refine r_iinc hm rfl (hr := (by omega)) (k := ?_)
                refine r_goto (t := 55) hm rfl (k := ?_)
                have enw : ∀ v, nw x src s i k v = false := fun v => decide_eq_false (fun z => by have z2 := z.2.1; omega)
                exact ih3 (d3 - 1) (by omega) (k + 1) h1 b _ (by omega) S1 (fun v hv => by rw [pe_k, enw, Bool.or_false]; exact eV v hv) (by simpa only [pe_k, enw, Bool.or_false] using eB)
              · have hq9 : (mnt x i k).toNat < x.1 := by omega
                have hi9 : mnt x i k = (((mnt x i k).toNat : Nat) : Int) := by omega
                obtain ⟨t1, t2⟩ := secN_eq hok (i := (mnt x i k).toNat) (by omega)
                have ev2 := eV (secN x (mnt x i k).toNat) t2
                have enw : ∀ v, nw x src s i k v = decide (secN x (mnt x i k).toNat = v) := fun v => by
                  unfold nw
                  by_cases z : secN x (mnt x i k).toNat = v
                  · rw [decide_eq_true z]; exact decide_eq_true ⟨hds, by omega, z⟩
                  · rw [decide_eq_false z]; exact decide_eq_false (fun w9 => z w9.2.2)
                refine r_aload_n hm rfl (k := ?_)
                refine r_getR (hm := hm) (hf := rfl) (hd := rfl) (hs := (by first | assumption | exact (g1.1 _).trans rfl)) (hv := (by first | exact putI_eq | exact (putI_ne (by omega)).trans (by first | first | assumption | exact g1.2 _ _ _ rfl | exact Q0 _ _ (by omega) (by omega) | exact Q1 _ _ (by omega) (by omega) | exact eN _ (by omega) | exact ev1 | exact ev2) | first | assumption | exact g1.2 _ _ _ rfl | exact Q0 _ _ (by omega) (by omega) | exact Q1 _ _ (by omega) (by omega) | exact eN _ (by omega) | exact ev1 | exact ev2)) (k := ?_)
                refine r_aload_n hm rfl (k := ?_)
                refine r_getR (hm := hm) (hf := rfl) (hd := rfl) (hs := (by first | assumption | exact (g1.1 _).trans rfl)) (hv := (by first | exact putI_eq | exact (putI_ne (by omega)).trans (by first | first | assumption | exact g1.2 _ _ _ rfl | exact Q0 _ _ (by omega) (by omega) | exact Q1 _ _ (by omega) (by omega) | exact eN _ (by omega) | exact ev1 | exact ev2) | first | assumption | exact g1.2 _ _ _ rfl | exact Q0 _ _ (by omega) (by omega) | exact Q1 _ _ (by omega) (by omega) | exact eN _ (by omega) | exact ev1 | exact ev2)) (k := ?_)
                refine r_iload hm rfl (k := ?_)
                refine r_iald (hm := hm) (hf := rfl) (hs := (by first | assumption | exact (g1.1 _).trans rfl)) (kk := (mnt x i k).toNat) (hi := by omega) (hn := (by omega)) (hv := (by first | exact putI_eq | exact (putI_ne (by omega)).trans (by first | first | assumption | exact g1.2 _ _ _ rfl | exact Q0 _ _ (by omega) (by omega) | exact Q1 _ _ (by omega) (by omega) | exact eN _ (by omega) | exact ev1 | exact ev2) | first | assumption | exact g1.2 _ _ _ rfl | exact Q0 _ _ (by omega) (by omega) | exact Q1 _ _ (by omega) (by omega) | exact eN _ (by omega) | exact ev1 | exact ev2)) (k := ?_)
                refine r_iconst hm rfl (k := ?_)
                refine r_iadd hm rfl (hr := (by omega)) (k := ?_)
                refine r_iald (hm := hm) (hf := rfl) (hs := (by first | assumption | exact (g1.1 _).trans rfl)) (kk := secN x (mnt x i k).toNat) (hi := by omega) (hn := (by omega)) (hv := (by first | exact putI_eq | exact (putI_ne (by omega)).trans (by first | first | assumption | exact g1.2 _ _ _ rfl | exact Q0 _ _ (by omega) (by omega) | exact Q1 _ _ (by omega) (by omega) | exact eN _ (by omega) | exact ev1 | exact ev2) | first | assumption | exact g1.2 _ _ _ rfl | exact Q0 _ _ (by omega) (by omega) | exact Q1 _ _ (by omega) (by omega) | exact eN _ (by omega) | exact ev1 | exact ev2)) (k := ?_)
                refine r_if_ge (t := 165) hm rfl rfl (fun c143 => ?_) (fun c143 => ?_)
                · refine r_iinc hm rfl (hr := (by omega)) (k := ?_)
                  refine r_goto (t := 55) hm rfl (k := ?_)
                  have hold : dv (edg x) src s (secN x (mnt x i k).toNat) = -1 → pe x src s i k (secN x (mnt x i k).toNat) = true := fun z => by
                    have c9 := c143
                    by_cases y9 : pe x src s i k (secN x (mnt x i k).toNat) = true
                    · exact y9
                    · rw [if_neg (fun w9 => y9 w9.2), z] at c9; omega
                  have same : ∀ v, dv (edg x) src s v = -1 → pe x src s i (k + 1) v = pe x src s i k v := fun v hv => by
                    rw [pe_k, enw]
                    by_cases z : secN x (mnt x i k).toNat = v
                    · subst z
                      rw [hold hv, Bool.true_or]
                    · rw [decide_eq_false z, Bool.or_false]
                  refine ih3 (d3 - 1) (by omega) (k + 1) h1 b _ (by omega) S1 (fun v hv => ?_) ?_
                  · rw [eV v hv]
                    by_cases z : dv (edg x) src s v = -1
                    · rw [same v z]
                    · rw [if_neg (fun w9 => z w9.1), if_neg (fun w9 => z w9.1)]
                  · rcases eB with ⟨e1, e2⟩ | ⟨e1, v, e2, e3, e4⟩
                    · exact Or.inl ⟨e1, fun v hv z => by rw [same v z]; exact e2 v hv z⟩
                    · exact Or.inr ⟨e1, v, e2, e3, by rw [same v e3]; exact e4⟩
                · refine r_aload_n hm rfl (k := ?_)
                  refine r_getR (hm := hm) (hf := rfl) (hd := rfl) (hs := (by first | assumption | exact (g1.1 _).trans rfl)) (hv := (by first | exact putI_eq | exact (putI_ne (by omega)).trans (by first | first | assumption | exact g1.2 _ _ _ rfl | exact Q0 _ _ (by omega) (by omega) | exact Q1 _ _ (by omega) (by omega) | exact eN _ (by omega) | exact ev1 | exact ev2) | first | assumption | exact g1.2 _ _ _ rfl | exact Q0 _ _ (by omega) (by omega) | exact Q1 _ _ (by omega) (by omega) | exact eN _ (by omega) | exact ev1 | exact ev2)) (k := ?_)
                  refine r_aload_n hm rfl (k := ?_)
                  refine r_getR (hm := hm) (hf := rfl) (hd := rfl) (hs := (by first | assumption | exact (g1.1 _).trans rfl)) (hv := (by first | exact putI_eq | exact (putI_ne (by omega)).trans (by first | first | assumption | exact g1.2 _ _ _ rfl | exact Q0 _ _ (by omega) (by omega) | exact Q1 _ _ (by omega) (by omega) | exact eN _ (by omega) | exact ev1 | exact ev2) | first | assumption | exact g1.2 _ _ _ rfl | exact Q0 _ _ (by omega) (by omega) | exact Q1 _ _ (by omega) (by omega) | exact eN _ (by omega) | exact ev1 | exact ev2)) (k := ?_)
                  refine r_iload hm rfl (k := ?_)
                  refine r_iald (hm := hm) (hf := rfl) (hs := (by first | assumption | exact (g1.1 _).trans rfl)) (kk := (mnt x i k).toNat) (hi := by omega) (hn := (by omega)) (hv := (by first | exact putI_eq | exact (putI_ne (by omega)).trans (by first | first | assumption | exact g1.2 _ _ _ rfl | exact Q0 _ _ (by omega) (by omega) | exact Q1 _ _ (by omega) (by omega) | exact eN _ (by omega) | exact ev1 | exact ev2) | first | assumption | exact g1.2 _ _ _ rfl | exact Q0 _ _ (by omega) (by omega) | exact Q1 _ _ (by omega) (by omega) | exact eN _ (by omega) | exact ev1 | exact ev2)) (k := ?_)
                  refine r_iconst hm rfl (k := ?_)
                  refine r_iadd hm rfl (hr := (by omega)) (k := ?_)
                  refine r_iload_n hm rfl (k := ?_)
                  refine r_iconst hm rfl (k := ?_)
                  refine r_iadd hm rfl (hr := (by omega)) (k := ?_)
                  refine r_iast (hm := hm) (hf := rfl) (h28 := (by omega)) (hs := (by first | assumption | exact (g1.1 _).trans rfl)) (kk := secN x (mnt x i k).toNat) (hi := by omega) (hn := (by omega)) (k := ?_)
                  refine r_iconst hm rfl (k := ?_)
                  refine r_istore_n hm rfl (k := ?_)
                  refine r_iinc hm rfl (hr := (by omega)) (k := ?_)
                  refine r_goto (t := 55) hm rfl (k := ?_)
                  have hdn : dv (edg x) src s (secN x (mnt x i k).toNat) = -1 := by
                    have c9 := c143
                    rcases @dv_c (edg x) src s (secN x (mnt x i k).toNat) with z | ⟨p, z, -⟩
                    · exact z.1
                    · exfalso
                      rw [if_neg (fun w9 => by omega), z] at c9
                      omega
                  refine ih3 (d3 - 1) (by omega) (k + 1) _ 1 _ (by omega) (Sm.put S1 rfl) (fun v hv => ?_) (Or.inr ⟨rfl, secN x (mnt x i k).toNat, t2, hdn, by rw [pe_k, enw, decide_eq_true rfl, Bool.or_true]⟩)
                  rw [pe_k, enw]
                  by_cases z : v = secN x (mnt x i k).toNat
                  · subst z
                    rw [putI_eq, decide_eq_true rfl, Bool.or_true, if_pos ⟨hdn, rfl⟩]
                  · rw [putI_ne (by omega), eV v hv, decide_eq_false (fun w9 => z w9.symm), Bool.or_false]
  · refine r_aload_n hm rfl (k := ?_)
    refine r_getR (hm := hm) (hf := rfl) (hd := rfl) (hs := (by first | assumption | exact (g1.1 _).trans rfl)) (hv := (by first | exact putI_eq | exact (putI_ne (by omega)).trans (by first | first | assumption | exact g1.2 _ _ _ rfl | exact Q0 _ _ (by omega) (by omega) | exact Q1 _ _ (by omega) (by omega) | exact eN _ (by omega) | exact ev1 | exact ev2) | first | assumption | exact g1.2 _ _ _ rfl | exact Q0 _ _ (by omega) (by omega) | exact Q1 _ _ (by omega) (by omega) | exact eN _ (by omega) | exact ev1 | exact ev2)) (k := ?_)
    refine r_iload_n hm rfl (k := ?_)
    refine r_iconst hm rfl (k := ?_)
    refine r_iast (hm := hm) (hf := rfl) (h28 := (by omega)) (hs := (by first | assumption | exact (g1.1 _).trans rfl)) (kk := k) (hi := by omega) (hn := (by omega)) (k := ?_)
    refine r_iinc hm rfl (hr := (by omega)) (k := ?_)
    refine r_goto (t := 2) hm rfl (k := ?_)
    exact ih (d - 1) (by omega) (k + 1) _ (by omega) (Sm.put S1 rfl) (fun v hv => if e : v = k then (by subst e; exact putI_eq) else (by rw [putI_ne (by omega)]; exact eM v (by omega)))
