/-! the reference counts -/
theorem sm_go {f : Nat → Int} {i d : Nat} (h : 0 < d) : sm f i d = f i + sm f (i + 1) (d - 1) := by
  obtain ⟨e, rfl⟩ : ∃ e, d = e + 1 := ⟨d - 1, by omega⟩
  rfl
theorem fi_val {p : Nat → Bool} : ∀ (d i : Nat), fi p i d ≠ -1 → p (fi p i d).toNat = true := by
  intro d
  induction d with
  | zero => intro i h; exact absurd rfl h
  | succ d ih =>
    intro i h
    unfold fi at h ⊢
    by_cases e : p i = true
    · rw [if_pos e]; rw [Int.toNat_natCast]; exact e
    · rw [if_neg e] at h ⊢; exact ih (i + 1) h
theorem fi_congr {p p2 : Nat → Bool} : ∀ (d i : Nat), (∀ k, i ≤ k → k < i + d → p k = p2 k) → fi p i d = fi p2 i d := by
  intro d
  induction d with
  | zero => intro i _; rfl
  | succ d ih =>
    intro i h
    unfold fi
    rw [h i (by omega) (by omega), ih (i + 1) (fun k a b => h k (by omega) (by omega))]
theorem an_congr {p p2 : Nat → Bool} : ∀ (d i : Nat), (∀ k, i ≤ k → k < i + d → p k = p2 k) → an p i d = an p2 i d := by
  intro d
  induction d with
  | zero => intro i _; rfl
  | succ d ih =>
    intro i h
    unfold an
    rw [h i (by omega) (by omega), ih (i + 1) (fun k a b => h k (by omega) (by omega))]
theorem mtm_iff {x : Tx} (hok : okTx x) {i q k : Nat} (hq : q < x.1) (hk : k < pcs x q) : (x.2.2.1 0 q k = 1 ∧ x.2.2.1 1 q k = mtm x i) ↔ (x.2.2.1 0 q k = 1 ∧ mnt x q k = (i : Int)) := by
  have hz := hok.2.2.1 q k hq (by unfold pcs at hk; omega)
  unfold okPc at hz
  constructor
  · rintro ⟨e, e2⟩
    refine ⟨e, ?_⟩
    unfold mtm at e2
    unfold mnt
    rw [if_pos e]
    by_cases c : x.2.1 3 i ≠ -1 ∧ fi (fun q => x.2.1 3 q == x.2.1 3 i) 0 x.1 = (i : Int)
    · rw [if_pos c] at e2
      rw [e2]
      exact c.2
    · rw [if_neg c] at e2
      omega
  · rintro ⟨e, e2⟩
    refine ⟨e, ?_⟩
    unfold mnt at e2
    rw [if_pos e] at e2
    have e3 := fi_val (p := fun q9 => x.2.1 3 q9 == x.2.2.1 1 q k) x.1 0 (by rw [e2]; omega)
    rw [e2, Int.toNat_natCast] at e3
    have e4 : x.2.1 3 i = x.2.2.1 1 q k := by simpa using e3
    unfold mtm
    rw [if_pos ⟨by omega, by rw [e4]; exact e2⟩, e4]
def fcm (x : Tx) (i : Nat) : Int := fi (fun q => an (fun k => decide (x.2.2.1 0 q k = 1 ∧ mnt x q k = (i : Int))) 0 (pcs x q)) 0 x.1
theorem fcm_eq {x : Tx} (hok : okTx x) (i : Nat) : fcm x i = fcl x i := by
  unfold fcm fcl
  refine fi_congr _ _ (fun q _ hq => an_congr _ _ (fun k _ hk => ?_))
  have := mtm_iff hok (i := i) (q := q) (k := k) (by omega) (by omega)
  exact decide_eq_decide.mpr this.symm
set_option maxRecDepth 8000 in
theorem m_piecesThat {L : Nat} {h : Hp} {x : Tx} (g : GG L h) (hc : h.2.1 1085 12 = ((3 : Nat) : Int)) (hR : RepM h 3 x) (hok : okTx x) {kd : Int} : RN 202 0 [some (.inr (.inr (some 1085))), some (.inl kd), none, none, none] [] h 0 0 (fun v h2 => h2 = h ∧ v = some (.inl (sm (fun i => sm (fun k => if kd < 0 ∨ x.2.2.1 0 i k = kd then (1 : Int) else 0) 0 (pcs x i)) 0 x.1))) := by
  have hm : mrec 202 = some nM202 := rfl
  obtain ⟨M0, M1, M2, M3, M4, Q0, Q1, Q2, S0, N0, N1⟩ := hR.use
  have n60 := hok.1
  have g1 := g
  refine r_iconst hm rfl (k := ?_)
  refine r_istore_n hm rfl (k := ?_)
  refine r_iconst hm rfl (k := ?_)
  refine r_istore_n hm rfl (k := ?_)
  suffices LP : ∀ (d i : Nat) (s : Int) (z4 : Option Vl), i + d = x.1 → 0 ≤ s ∧ s ≤ 20 * i → s + sm (fun i => sm (fun k => if kd < 0 ∨ x.2.2.1 0 i k = kd then (1 : Int) else 0) 0 (pcs x i)) i d = sm (fun i => sm (fun k => if kd < 0 ∨ x.2.2.1 0 i k = kd then (1 : Int) else 0) 0 (pcs x i)) 0 x.1 → RN 202 4 [some (.inr (.inr (some 1085))), some (.inl kd), some (.inl s), some (.inl (i : Int)), z4] [] h 0 0 (fun v h2 => h2 = h ∧ v = some (.inl (sm (fun i => sm (fun k => if kd < 0 ∨ x.2.2.1 0 i k = kd then (1 : Int) else 0) 0 (pcs x i)) 0 x.1))) from LP x.1 0 0 _ (by omega) (by omega) (by omega)
  refine fun d => Nat.strongRecOn d (fun d ih => ?_)
  intro i s z4 hd hs hr
  refine r_iload_n hm rfl (k := ?_)
  refine r_aload_n hm rfl (k := ?_)
  refine r_getR (hm := hm) (hf := rfl) (hd := rfl) (hs := (by first | assumption | exact (g1.1 _).trans rfl)) (hv := (by first | assumption | exact g1.2 _ _ _ rfl | exact M1 _ (by omega) | exact M3 _ (by omega) | exact M4 _ (by omega) | exact Q0 _ _ (by omega) (by omega) | exact Q1 _ _ (by omega) (by omega))) (k := ?_)
  refine r_iconst hm rfl (k := ?_)
  refine r_iald (hm := hm) (hf := rfl) (hs := (by first | assumption | exact (g1.1 _).trans rfl)) (kk := 3) (hi := by omega) (hn := (by omega)) (hv := (by first | assumption | exact g1.2 _ _ _ rfl | exact M1 _ (by omega) | exact M3 _ (by omega) | exact M4 _ (by omega) | exact Q0 _ _ (by omega) (by omega) | exact Q1 _ _ (by omega) (by omega))) (k := ?_)
  refine r_icmp_ge (t := 76) hm rfl rfl (fun c11 => ?_) (fun c11 => ?_)
  · refine r_iload_n hm rfl (k := ?_)
    refine r_ireturn hm rfl rfl (by rfl) (Nat.le_of_ble_eq_true rfl) (Nat.le_of_ble_eq_true rfl) ?_
    have e0 : d = 0 := by omega
    subst e0
    have e1 : sm (fun i => sm (fun k => if kd < 0 ∨ x.2.2.1 0 i k = kd then (1 : Int) else 0) 0 (pcs x i)) i 0 = 0 := rfl
    exact ⟨rfl, by rw [← hr, e1, Int.add_zero]⟩
  · have hi2 : i < x.1 := by omega
    obtain ⟨ep, ep2⟩ := pcs_eq hok hi2
    refine r_iconst hm rfl (k := ?_)
    refine r_istore hm rfl (k := ?_)
    have hgo := sm_go (f := (fun i => sm (fun k => if kd < 0 ∨ x.2.2.1 0 i k = kd then (1 : Int) else 0) 0 (pcs x i))) (i := i) (d := d) (by omega)
    have hbb := sm_le (f := (fun k => if kd < 0 ∨ x.2.2.1 0 i k = kd then (1 : Int) else 0)) (B := 1) (fun k => by split <;> omega) (pcs x i) 0
    suffices LP : ∀ (d2 k : Nat) (s2 : Int), k + d2 = pcs x i → 0 ≤ s2 ∧ s2 ≤ 20 * i + k → s2 + sm (fun k => if kd < 0 ∨ x.2.2.1 0 i k = kd then (1 : Int) else 0) k d2 = s + sm (fun k => if kd < 0 ∨ x.2.2.1 0 i k = kd then (1 : Int) else 0) 0 (pcs x i) → RN 202 17 [some (.inr (.inr (some 1085))), some (.inl kd), some (.inl s2), some (.inl (i : Int)), some (.inl (k : Int))] [] h 0 0 (fun v h2 => h2 = h ∧ v = some (.inl (sm (fun i => sm (fun k => if kd < 0 ∨ x.2.2.1 0 i k = kd then (1 : Int) else 0) 0 (pcs x i)) 0 x.1))) from LP (pcs x i) 0 s (by omega) (by omega) rfl
    refine fun d2 => Nat.strongRecOn d2 (fun d2 ih2 => ?_)
    intro k s2 hd2 hs2 hr2
    refine r_iload hm rfl (k := ?_)
    refine r_aload_n hm rfl (k := ?_)
    refine r_getR (hm := hm) (hf := rfl) (hd := rfl) (hs := (by first | assumption | exact (g1.1 _).trans rfl)) (hv := (by first | assumption | exact g1.2 _ _ _ rfl | exact M1 _ (by omega) | exact M3 _ (by omega) | exact M4 _ (by omega) | exact Q0 _ _ (by omega) (by omega) | exact Q1 _ _ (by omega) (by omega))) (k := ?_)
    refine r_sipush hm rfl (k := ?_)
    refine r_iload_n hm rfl (k := ?_)
    refine r_iadd hm rfl (hr := (by omega)) (k := ?_)
    refine r_iald (hm := hm) (hf := rfl) (hs := (by first | assumption | exact (g1.1 _).trans rfl)) (kk := 60 * 3 + i) (hi := by omega) (hn := (by omega)) (hv := (by first | assumption | exact g1.2 _ _ _ rfl | exact M1 _ (by omega) | exact M3 _ (by omega) | exact M4 _ (by omega) | exact Q0 _ _ (by omega) (by omega) | exact Q1 _ _ (by omega) (by omega))) (k := ?_)
    refine r_icmp_ge (t := 70) hm rfl rfl (fun c29 => ?_) (fun c29 => ?_)
    · refine r_iinc hm rfl (hr := (by omega)) (k := ?_)
      refine r_goto (t := 4) hm rfl (k := ?_)
      have e0 : d2 = 0 := by omega
      subst e0
      have e1 : sm (fun k => if kd < 0 ∨ x.2.2.1 0 i k = kd then (1 : Int) else 0) k 0 = 0 := rfl
      exact ih (d - 1) (by omega) (i + 1) s2 _ (by omega) (by omega) (by omega)
    · refine r_iload_n hm rfl (k := ?_)
      refine r_iload_n hm rfl (k := ?_)
      refine r_if_lt (t := 57) hm rfl rfl (fun c34 => ?_) (fun c34 => ?_)
      · refine r_iconst hm rfl (k := ?_)
        refine r_goto (t := 62) hm rfl (k := ?_)
        refine r_iadd hm rfl (hr := (by omega)) (k := ?_)
        refine r_istore_n hm rfl (k := ?_)
        refine r_iinc hm rfl (hr := (by omega)) (k := ?_)
        refine r_goto (t := 17) hm rfl (k := ?_)
        have hg2 := sm_go (f := (fun k => if kd < 0 ∨ x.2.2.1 0 i k = kd then (1 : Int) else 0)) (i := k) (d := d2) (by omega)
        try dsimp only at hg2
        rw [if_pos (by first | assumption | omega)] at hg2
        exact ih2 (d2 - 1) (by omega) (k + 1) _ (by omega) (by omega) (by omega)
      · refine r_aload_n hm rfl (k := ?_)
        refine r_getR (hm := hm) (hf := rfl) (hd := rfl) (hs := (by first | assumption | exact (g1.1 _).trans rfl)) (hv := (by first | assumption | exact g1.2 _ _ _ rfl | exact M1 _ (by omega) | exact M3 _ (by omega) | exact M4 _ (by omega) | exact Q0 _ _ (by omega) (by omega) | exact Q1 _ _ (by omega) (by omega))) (k := ?_)
        refine r_bipush hm rfl (k := ?_)
        refine r_sipush hm rfl (k := ?_)
        refine r_iload_n hm rfl (k := ?_)
        refine r_iadd hm rfl (hr := (by omega)) (k := ?_)
        refine r_imul hm rfl (hr := (by omega)) (k := ?_)
        refine r_iload hm rfl (k := ?_)
        refine r_iadd hm rfl (hr := (by omega)) (k := ?_)
        refine r_iald (hm := hm) (hf := rfl) (hs := (by first | assumption | exact (g1.1 _).trans rfl)) (kk := 20 * (60 * 3 + i) + k) (hi := by omega) (hn := (by omega)) (hv := (by first | assumption | exact g1.2 _ _ _ rfl | exact M1 _ (by omega) | exact M3 _ (by omega) | exact M4 _ (by omega) | exact Q0 _ _ (by omega) (by omega) | exact Q1 _ _ (by omega) (by omega))) (k := ?_)
        refine r_iload_n hm rfl (k := ?_)
        refine r_icmp_ne (t := 61) hm rfl rfl (fun c54 => ?_) (fun c54 => ?_)
        · refine r_iconst hm rfl (k := ?_)
          refine r_iadd hm rfl (hr := (by omega)) (k := ?_)
          refine r_istore_n hm rfl (k := ?_)
          refine r_iinc hm rfl (hr := (by omega)) (k := ?_)
          refine r_goto (t := 17) hm rfl (k := ?_)
          have hg2 := sm_go (f := (fun k => if kd < 0 ∨ x.2.2.1 0 i k = kd then (1 : Int) else 0)) (i := k) (d := d2) (by omega)
          try dsimp only at hg2
          rw [if_neg (by first | assumption | omega)] at hg2
          exact ih2 (d2 - 1) (by omega) (k + 1) _ (by omega) (by omega) (by omega)
        · refine r_iconst hm rfl (k := ?_)
          refine r_goto (t := 62) hm rfl (k := ?_)
          refine r_iadd hm rfl (hr := (by omega)) (k := ?_)
          refine r_istore_n hm rfl (k := ?_)
          refine r_iinc hm rfl (hr := (by omega)) (k := ?_)
          refine r_goto (t := 17) hm rfl (k := ?_)
          have hg2 := sm_go (f := (fun k => if kd < 0 ∨ x.2.2.1 0 i k = kd then (1 : Int) else 0)) (i := k) (d := d2) (by omega)
          try dsimp only at hg2
          rw [if_pos (by first | assumption | omega)] at hg2
          exact ih2 (d2 - 1) (by omega) (k + 1) _ (by omega) (by omega) (by omega)
set_option maxRecDepth 8000 in
theorem m_vain {L : Nat} {h : Hp} {x : Tx} (g : GG L h) (hc : h.2.1 1085 12 = ((3 : Nat) : Int)) (hR : RepM h 3 x) (hok : okTx x) : RN 203 0 [some (.inr (.inr (some 1085))), none, none, none, none] [] h 0 0 (fun v h2 => h2 = h ∧ v = some (.inl (sm (fun i => sm (fun k => if x.2.2.1 0 i k = 1 ∧ mnt x i k = -1 then (1 : Int) else 0) 0 (pcs x i)) 0 x.1))) := by
  have hm : mrec 203 = some nM203 := rfl
  obtain ⟨M0, M1, M2, M3, M4, Q0, Q1, Q2, S0, N0, N1⟩ := hR.use
  have n60 := hok.1
  have g1 := g
  refine r_iconst hm rfl (k := ?_)
  refine r_istore_n hm rfl (k := ?_)
  refine r_iconst hm rfl (k := ?_)
  refine r_istore_n hm rfl (k := ?_)
  suffices LP : ∀ (d i : Nat) (s : Int) (z4 z5 : Option Vl), i + d = x.1 → 0 ≤ s ∧ s ≤ 20 * i → s + sm (fun i => sm (fun k => if x.2.2.1 0 i k = 1 ∧ mnt x i k = -1 then (1 : Int) else 0) 0 (pcs x i)) i d = sm (fun i => sm (fun k => if x.2.2.1 0 i k = 1 ∧ mnt x i k = -1 then (1 : Int) else 0) 0 (pcs x i)) 0 x.1 → RN 203 4 [some (.inr (.inr (some 1085))), some (.inl s), some (.inl (i : Int)), z4, z5] [] h 0 0 (fun v h2 => h2 = h ∧ v = some (.inl (sm (fun i => sm (fun k => if x.2.2.1 0 i k = 1 ∧ mnt x i k = -1 then (1 : Int) else 0) 0 (pcs x i)) 0 x.1))) from LP x.1 0 0 _ _ (by omega) (by omega) (by omega)
  refine fun d => Nat.strongRecOn d (fun d ih => ?_)
  intro i s z4 z5 hd hs hr
  refine r_iload_n hm rfl (k := ?_)
  refine r_aload_n hm rfl (k := ?_)
  refine r_getR (hm := hm) (hf := rfl) (hd := rfl) (hs := (by first | assumption | exact (g1.1 _).trans rfl)) (hv := (by first | assumption | exact g1.2 _ _ _ rfl | exact M1 _ (by omega) | exact M3 _ (by omega) | exact M4 _ (by omega) | exact Q0 _ _ (by omega) (by omega) | exact Q1 _ _ (by omega) (by omega))) (k := ?_)
  refine r_iconst hm rfl (k := ?_)
  refine r_iald (hm := hm) (hf := rfl) (hs := (by first | assumption | exact (g1.1 _).trans rfl)) (kk := 3) (hi := by omega) (hn := (by omega)) (hv := (by first | assumption | exact g1.2 _ _ _ rfl | exact M1 _ (by omega) | exact M3 _ (by omega) | exact M4 _ (by omega) | exact Q0 _ _ (by omega) (by omega) | exact Q1 _ _ (by omega) (by omega))) (k := ?_)
  refine r_icmp_ge (t := 87) hm rfl rfl (fun c11 => ?_) (fun c11 => ?_)
  · refine r_iload_n hm rfl (k := ?_)
    refine r_ireturn hm rfl rfl (by rfl) (Nat.le_of_ble_eq_true rfl) (Nat.le_of_ble_eq_true rfl) ?_
    have e0 : d = 0 := by omega
    subst e0
    have e1 : sm (fun i => sm (fun k => if x.2.2.1 0 i k = 1 ∧ mnt x i k = -1 then (1 : Int) else 0) 0 (pcs x i)) i 0 = 0 := rfl
    exact ⟨rfl, by rw [← hr, e1, Int.add_zero]⟩
  · have hi2 : i < x.1 := by omega
    obtain ⟨ep, ep2⟩ := pcs_eq hok hi2
    refine r_iconst hm rfl (k := ?_)
    refine r_istore_n hm rfl (k := ?_)
    have hgo := sm_go (f := (fun i => sm (fun k => if x.2.2.1 0 i k = 1 ∧ mnt x i k = -1 then (1 : Int) else 0) 0 (pcs x i))) (i := i) (d := d) (by omega)
    have hbb := sm_le (f := (fun k => if x.2.2.1 0 i k = 1 ∧ mnt x i k = -1 then (1 : Int) else 0)) (B := 1) (fun k => by split <;> omega) (pcs x i) 0
    suffices LP : ∀ (d2 k : Nat) (s2 : Int) (z5 : Option Vl), k + d2 = pcs x i → 0 ≤ s2 ∧ s2 ≤ 20 * i + k → s2 + sm (fun k => if x.2.2.1 0 i k = 1 ∧ mnt x i k = -1 then (1 : Int) else 0) k d2 = s + sm (fun k => if x.2.2.1 0 i k = 1 ∧ mnt x i k = -1 then (1 : Int) else 0) 0 (pcs x i) → RN 203 16 [some (.inr (.inr (some 1085))), some (.inl s2), some (.inl (i : Int)), some (.inl (k : Int)), z5] [] h 0 0 (fun v h2 => h2 = h ∧ v = some (.inl (sm (fun i => sm (fun k => if x.2.2.1 0 i k = 1 ∧ mnt x i k = -1 then (1 : Int) else 0) 0 (pcs x i)) 0 x.1))) from LP (pcs x i) 0 s _ (by omega) (by omega) rfl
    refine fun d2 => Nat.strongRecOn d2 (fun d2 ih2 => ?_)
    intro k s2 z5 hd2 hs2 hr2
    refine r_iload_n hm rfl (k := ?_)
    refine r_aload_n hm rfl (k := ?_)
    refine r_getR (hm := hm) (hf := rfl) (hd := rfl) (hs := (by first | assumption | exact (g1.1 _).trans rfl)) (hv := (by first | assumption | exact g1.2 _ _ _ rfl | exact M1 _ (by omega) | exact M3 _ (by omega) | exact M4 _ (by omega) | exact Q0 _ _ (by omega) (by omega) | exact Q1 _ _ (by omega) (by omega))) (k := ?_)
    refine r_sipush hm rfl (k := ?_)
    refine r_iload_n hm rfl (k := ?_)
    refine r_iadd hm rfl (hr := (by omega)) (k := ?_)
    refine r_iald (hm := hm) (hf := rfl) (hs := (by first | assumption | exact (g1.1 _).trans rfl)) (kk := 60 * 3 + i) (hi := by omega) (hn := (by omega)) (hv := (by first | assumption | exact g1.2 _ _ _ rfl | exact M1 _ (by omega) | exact M3 _ (by omega) | exact M4 _ (by omega) | exact Q0 _ _ (by omega) (by omega) | exact Q1 _ _ (by omega) (by omega))) (k := ?_)
    refine r_icmp_ge (t := 81) hm rfl rfl (fun c27 => ?_) (fun c27 => ?_)
    · refine r_iinc hm rfl (hr := (by omega)) (k := ?_)
      refine r_goto (t := 4) hm rfl (k := ?_)
      have e0 : d2 = 0 := by omega
      subst e0
      have e1 : sm (fun k => if x.2.2.1 0 i k = 1 ∧ mnt x i k = -1 then (1 : Int) else 0) k 0 = 0 := rfl
      exact ih (d - 1) (by omega) (i + 1) s2 _ _ (by omega) (by omega) (by omega)
    · have hz := hok.2.2.1 i k hi2 (by omega)
      unfold okPc at hz
      have hmr := @mnt_rng x i k
      refine r_bipush hm rfl (k := ?_)
      refine r_sipush hm rfl (k := ?_)
      refine r_iload_n hm rfl (k := ?_)
      refine r_iadd hm rfl (hr := (by omega)) (k := ?_)
      refine r_imul hm rfl (hr := (by omega)) (k := ?_)
      refine r_iload_n hm rfl (k := ?_)
      refine r_iadd hm rfl (hr := (by omega)) (k := ?_)
      refine r_istore hm rfl (k := ?_)
      refine r_iload_n hm rfl (k := ?_)
      refine r_aload_n hm rfl (k := ?_)
      refine r_getR (hm := hm) (hf := rfl) (hd := rfl) (hs := (by first | assumption | exact (g1.1 _).trans rfl)) (hv := (by first | assumption | exact g1.2 _ _ _ rfl | exact M1 _ (by omega) | exact M3 _ (by omega) | exact M4 _ (by omega) | exact Q0 _ _ (by omega) (by omega) | exact Q1 _ _ (by omega) (by omega))) (k := ?_)
      refine r_iload hm rfl (k := ?_)
      refine r_iald (hm := hm) (hf := rfl) (hs := (by first | assumption | exact (g1.1 _).trans rfl)) (kk := 20 * (60 * 3 + i) + k) (hi := by omega) (hn := (by omega)) (hv := (by first | assumption | exact g1.2 _ _ _ rfl | exact M1 _ (by omega) | exact M3 _ (by omega) | exact M4 _ (by omega) | exact Q0 _ _ (by omega) (by omega) | exact Q1 _ _ (by omega) (by omega))) (k := ?_)
      refine r_iconst hm rfl (k := ?_)
      refine r_icmp_ne (t := 72) hm rfl rfl (fun c51 => ?_) (fun c51 => ?_)
      · refine r_iconst hm rfl (k := ?_)
        refine r_iadd hm rfl (hr := (by omega)) (k := ?_)
        refine r_istore_n hm rfl (k := ?_)
        refine r_iinc hm rfl (hr := (by omega)) (k := ?_)
        refine r_goto (t := 16) hm rfl (k := ?_)
        have hg2 := sm_go (f := (fun k => if x.2.2.1 0 i k = 1 ∧ mnt x i k = -1 then (1 : Int) else 0)) (i := k) (d := d2) (by omega)
        try dsimp only at hg2
        rw [if_neg (by first | assumption | omega)] at hg2
        exact ih2 (d2 - 1) (by omega) (k + 1) _ _ (by omega) (by omega) (by omega)
      · have emt : x.2.2.1 0 i k = 1 → fi (fun q => x.2.1 3 q == x.2.2.1 1 i k) 0 x.1 = mnt x i k := fun e => (if_pos e).symm
        have qM := m_meant g hc (by omega) hR (m := x.2.2.1 1 i k) (by omega)
        rw [emt (by omega)] at qM
        refine r_aload_n hm rfl (k := ?_)
        refine r_aload_n hm rfl (k := ?_)
        refine r_getR (hm := hm) (hf := rfl) (hd := rfl) (hs := (by first | assumption | exact (g1.1 _).trans rfl)) (hv := (by first | assumption | exact g1.2 _ _ _ rfl | exact M1 _ (by omega) | exact M3 _ (by omega) | exact M4 _ (by omega) | exact Q0 _ _ (by omega) (by omega) | exact Q1 _ _ (by omega) (by omega))) (k := ?_)
        refine r_iload hm rfl (k := ?_)
        refine r_iald (hm := hm) (hf := rfl) (hs := (by first | assumption | exact (g1.1 _).trans rfl)) (kk := 20 * (60 * 3 + i) + k) (hi := by omega) (hn := (by omega)) (hv := (by first | assumption | exact g1.2 _ _ _ rfl | exact M1 _ (by omega) | exact M3 _ (by omega) | exact M4 _ (by omega) | exact Q0 _ _ (by omega) (by omega) | exact Q1 _ _ (by omega) (by omega))) (k := ?_)
        refine r_callv (j2 := 199) hm rfl rfl rfl rfl rfl rfl (by first | assumption | exact (g1.1 _).trans rfl) (Nat.le_of_ble_eq_true rfl) (Nat.le_of_ble_eq_true rfl) rfl ⟨Nat.le_of_ble_eq_true rfl, Nat.le_of_ble_eq_true rfl, Nat.le_of_ble_eq_true rfl, Nat.le_of_ble_eq_true rfl, Nat.le_of_ble_eq_true rfl⟩ rfl (qM) (fun v9 h9 p9 => ?_)
        obtain ⟨e1, e2⟩ := p9
        subst e2
        replace e1 := e1.symm
        subst e1
        change RN 203 65 _ _ _ 0 0 _
        dsimp only [Option.toList, List.cons_append, List.nil_append]
        refine r_if_ge (t := 72) hm rfl rfl (fun c65 => ?_) (fun c65 => ?_)
        · refine r_iconst hm rfl (k := ?_)
          refine r_iadd hm rfl (hr := (by omega)) (k := ?_)
          refine r_istore_n hm rfl (k := ?_)
          refine r_iinc hm rfl (hr := (by omega)) (k := ?_)
          refine r_goto (t := 16) hm rfl (k := ?_)
          have hg2 := sm_go (f := (fun k => if x.2.2.1 0 i k = 1 ∧ mnt x i k = -1 then (1 : Int) else 0)) (i := k) (d := d2) (by omega)
          try dsimp only at hg2
          rw [if_neg (by first | assumption | omega)] at hg2
          exact ih2 (d2 - 1) (by omega) (k + 1) _ _ (by omega) (by omega) (by omega)
        · refine r_iconst hm rfl (k := ?_)
          refine r_goto (t := 73) hm rfl (k := ?_)
          refine r_iadd hm rfl (hr := (by omega)) (k := ?_)
          refine r_istore_n hm rfl (k := ?_)
          refine r_iinc hm rfl (hr := (by omega)) (k := ?_)
          refine r_goto (t := 16) hm rfl (k := ?_)
          have hg2 := sm_go (f := (fun k => if x.2.2.1 0 i k = 1 ∧ mnt x i k = -1 then (1 : Int) else 0)) (i := k) (d := d2) (by omega)
          try dsimp only at hg2
          rw [if_pos (by first | assumption | omega)] at hg2
          exact ih2 (d2 - 1) (by omega) (k + 1) _ _ (by omega) (by omega) (by omega)
set_option maxRecDepth 8000 in
theorem m_doubled {L : Nat} {h : Hp} {x : Tx} (g : GG L h) (hc : h.2.1 1085 12 = ((3 : Nat) : Int)) (hR : RepM h 3 x) (hok : okTx x) : RN 204 0 [some (.inr (.inr (some 1085))), none, none, none, none] [] h 0 0 (fun v h2 => h2 = h ∧ v = some (.inl (sm (fun m => if 1 < sm (fun i => if x.2.1 3 i = (m : Int) then (1 : Int) else 0) 0 x.1 then (1 : Int) else 0) 0 100))) := by
  have hm : mrec 204 = some nM204 := rfl
  obtain ⟨M0, M1, M2, M3, M4, Q0, Q1, Q2, S0, N0, N1⟩ := hR.use
  have n60 := hok.1
  have g1 := g
  refine r_iconst hm rfl (k := ?_)
  refine r_istore_n hm rfl (k := ?_)
  refine r_iconst hm rfl (k := ?_)
  refine r_istore_n hm rfl (k := ?_)
  suffices LP : ∀ (d m : Nat) (s : Int) (z3 z4 : Option Vl), m + d = 100 → 0 ≤ s ∧ s ≤ m → s + sm (fun m => if 1 < sm (fun i => if x.2.1 3 i = (m : Int) then (1 : Int) else 0) 0 x.1 then (1 : Int) else 0) m d = sm (fun m => if 1 < sm (fun i => if x.2.1 3 i = (m : Int) then (1 : Int) else 0) 0 x.1 then (1 : Int) else 0) 0 100 → RN 204 4 [some (.inr (.inr (some 1085))), some (.inl s), some (.inl (m : Int)), z3, z4] [] h 0 0 (fun v h2 => h2 = h ∧ v = some (.inl (sm (fun m => if 1 < sm (fun i => if x.2.1 3 i = (m : Int) then (1 : Int) else 0) 0 x.1 then (1 : Int) else 0) 0 100))) from LP 100 0 0 _ _ (by omega) (by omega) (by omega)
  refine fun d => Nat.strongRecOn d (fun d ih => ?_)
  intro m s z3 z4 hd hs hr
  refine r_iload_n hm rfl (k := ?_)
  refine r_bipush hm rfl (k := ?_)
  refine r_icmp_ge (t := 74) hm rfl rfl (fun c7 => ?_) (fun c7 => ?_)
  · refine r_iload_n hm rfl (k := ?_)
    refine r_ireturn hm rfl rfl (by rfl) (Nat.le_of_ble_eq_true rfl) (Nat.le_of_ble_eq_true rfl) ?_
    have e0 : d = 0 := by omega
    subst e0
    have e1 : sm (fun m => if 1 < sm (fun i => if x.2.1 3 i = (m : Int) then (1 : Int) else 0) 0 x.1 then (1 : Int) else 0) m 0 = 0 := rfl
    exact ⟨rfl, by rw [← hr, e1, Int.add_zero]⟩
  · refine r_iconst hm rfl (k := ?_)
    refine r_istore_n hm rfl (k := ?_)
    refine r_iconst hm rfl (k := ?_)
    refine r_istore hm rfl (k := ?_)
    have hgo := sm_go (f := (fun m => if 1 < sm (fun i => if x.2.1 3 i = (m : Int) then (1 : Int) else 0) 0 x.1 then (1 : Int) else 0)) (i := m) (d := d) (by omega)
    suffices LP : ∀ (d2 i : Nat) (s2 : Int), i + d2 = x.1 → 0 ≤ s2 ∧ s2 ≤ i → s2 + sm (fun i => if x.2.1 3 i = (m : Int) then (1 : Int) else 0) i d2 = sm (fun i => if x.2.1 3 i = (m : Int) then (1 : Int) else 0) 0 x.1 → RN 204 15 [some (.inr (.inr (some 1085))), some (.inl s), some (.inl (m : Int)), some (.inl s2), some (.inl (i : Int))] [] h 0 0 (fun v h2 => h2 = h ∧ v = some (.inl (sm (fun m => if 1 < sm (fun i => if x.2.1 3 i = (m : Int) then (1 : Int) else 0) 0 x.1 then (1 : Int) else 0) 0 100))) from LP x.1 0 0 (by omega) (by omega) (by omega)
    refine fun d2 => Nat.strongRecOn d2 (fun d2 ih2 => ?_)
    intro i s2 hd2 hs2 hr2
    refine r_iload hm rfl (k := ?_)
    refine r_aload_n hm rfl (k := ?_)
    refine r_getR (hm := hm) (hf := rfl) (hd := rfl) (hs := (by first | assumption | exact (g1.1 _).trans rfl)) (hv := (by first | assumption | exact g1.2 _ _ _ rfl | exact M1 _ (by omega) | exact M3 _ (by omega) | exact M4 _ (by omega) | exact Q0 _ _ (by omega) (by omega) | exact Q1 _ _ (by omega) (by omega))) (k := ?_)
    refine r_iconst hm rfl (k := ?_)
    refine r_iald (hm := hm) (hf := rfl) (hs := (by first | assumption | exact (g1.1 _).trans rfl)) (kk := 3) (hi := by omega) (hn := (by omega)) (hv := (by first | assumption | exact g1.2 _ _ _ rfl | exact M1 _ (by omega) | exact M3 _ (by omega) | exact M4 _ (by omega) | exact Q0 _ _ (by omega) (by omega) | exact Q1 _ _ (by omega) (by omega))) (k := ?_)
    refine r_icmp_ge (t := 55) hm rfl rfl (fun c23 => ?_) (fun c23 => ?_)
    · refine r_iload_n hm rfl (k := ?_)
      refine r_iload_n hm rfl (k := ?_)
      refine r_iconst hm rfl (k := ?_)
      refine r_icmp_le (t := 65) hm rfl rfl (fun c58 => ?_) (fun c58 => ?_)
      · refine r_iconst hm rfl (k := ?_)
        refine r_iadd hm rfl (hr := (by omega)) (k := ?_)
        refine r_istore_n hm rfl (k := ?_)
        refine r_iinc hm rfl (hr := (by omega)) (k := ?_)
        refine r_goto (t := 4) hm rfl (k := ?_)
        have e0 : d2 = 0 := by omega
        subst e0
        have e1 : sm (fun i => if x.2.1 3 i = (m : Int) then (1 : Int) else 0) i 0 = 0 := rfl
        try dsimp only at hgo
        rw [if_neg (by omega)] at hgo
        exact ih (d - 1) (by omega) (m + 1) _ _ _ (by omega) (by omega) (by omega)
      · refine r_iconst hm rfl (k := ?_)
        refine r_goto (t := 66) hm rfl (k := ?_)
        refine r_iadd hm rfl (hr := (by omega)) (k := ?_)
        refine r_istore_n hm rfl (k := ?_)
        refine r_iinc hm rfl (hr := (by omega)) (k := ?_)
        refine r_goto (t := 4) hm rfl (k := ?_)
        have e0 : d2 = 0 := by omega
        subst e0
        have e1 : sm (fun i => if x.2.1 3 i = (m : Int) then (1 : Int) else 0) i 0 = 0 := rfl
        try dsimp only at hgo
        rw [if_pos (by omega)] at hgo
        exact ih (d - 1) (by omega) (m + 1) _ _ _ (by omega) (by omega) (by omega)
    · refine r_iload_n hm rfl (k := ?_)
      refine r_aload_n hm rfl (k := ?_)
      refine r_getR (hm := hm) (hf := rfl) (hd := rfl) (hs := (by first | assumption | exact (g1.1 _).trans rfl)) (hv := (by first | assumption | exact g1.2 _ _ _ rfl | exact M1 _ (by omega) | exact M3 _ (by omega) | exact M4 _ (by omega) | exact Q0 _ _ (by omega) (by omega) | exact Q1 _ _ (by omega) (by omega))) (k := ?_)
      refine r_sipush hm rfl (k := ?_)
      refine r_iload hm rfl (k := ?_)
      refine r_iadd hm rfl (hr := (by omega)) (k := ?_)
      refine r_iald (hm := hm) (hf := rfl) (hs := (by first | assumption | exact (g1.1 _).trans rfl)) (kk := 60 * 3 + i) (hi := by omega) (hn := (by omega)) (hv := (by first | assumption | exact g1.2 _ _ _ rfl | exact M1 _ (by omega) | exact M3 _ (by omega) | exact M4 _ (by omega) | exact Q0 _ _ (by omega) (by omega) | exact Q1 _ _ (by omega) (by omega))) (k := ?_)
      refine r_iload_n hm rfl (k := ?_)
      refine r_icmp_ne (t := 46) hm rfl rfl (fun c39 => ?_) (fun c39 => ?_)
      · refine r_iconst hm rfl (k := ?_)
        refine r_iadd hm rfl (hr := (by omega)) (k := ?_)
        refine r_istore_n hm rfl (k := ?_)
        refine r_iinc hm rfl (hr := (by omega)) (k := ?_)
        refine r_goto (t := 15) hm rfl (k := ?_)
        have hg2 := sm_go (f := (fun i => if x.2.1 3 i = (m : Int) then (1 : Int) else 0)) (i := i) (d := d2) (by omega)
        try dsimp only at hg2
        rw [if_neg (by omega)] at hg2
        exact ih2 (d2 - 1) (by omega) (i + 1) _ (by omega) (by omega) (by omega)
      · refine r_iconst hm rfl (k := ?_)
        refine r_goto (t := 47) hm rfl (k := ?_)
        refine r_iadd hm rfl (hr := (by omega)) (k := ?_)
        refine r_istore_n hm rfl (k := ?_)
        refine r_iinc hm rfl (hr := (by omega)) (k := ?_)
        refine r_goto (t := 15) hm rfl (k := ?_)
        have hg2 := sm_go (f := (fun i => if x.2.1 3 i = (m : Int) then (1 : Int) else 0)) (i := i) (d := d2) (by omega)
        try dsimp only at hg2
        rw [if_pos (by omega)] at hg2
        exact ih2 (d2 - 1) (by omega) (i + 1) _ (by omega) (by omega) (by omega)
set_option maxRecDepth 8000 in
theorem m_firstCall {L : Nat} {h : Hp} {x : Tx} (g : GG L h) (hc : h.2.1 1085 12 = ((3 : Nat) : Int)) (hR : RepM h 3 x) (hok : okTx x) {t0 : Nat} : RN 206 0 [some (.inr (.inr (some 1085))), some (.inl (t0 : Int)), none, none] [] h 0 0 (fun v h2 => h2 = h ∧ v = some (.inl (fcm x t0))) := by
  have hm : mrec 206 = some nM206 := rfl
  obtain ⟨M0, M1, M2, M3, M4, Q0, Q1, Q2, S0, N0, N1⟩ := hR.use
  have n60 := hok.1
  have g1 := g
  refine r_iconst hm rfl (k := ?_)
  refine r_istore_n hm rfl (k := ?_)
  suffices LP : ∀ (d i : Nat) (z3 : Option Vl), i + d = x.1 → fi (fun q => an (fun k => decide (x.2.2.1 0 q k = 1 ∧ mnt x q k = (t0 : Int))) 0 (pcs x q)) i d = fcm x t0 → RN 206 2 [some (.inr (.inr (some 1085))), some (.inl (t0 : Int)), some (.inl (i : Int)), z3] [] h 0 0 (fun v h2 => h2 = h ∧ v = some (.inl (fcm x t0))) from LP x.1 0 _ (by omega) rfl
  refine fun d => Nat.strongRecOn d (fun d ih => ?_)
  intro i z3 hd hr
  refine r_iload_n hm rfl (k := ?_)
  refine r_aload_n hm rfl (k := ?_)
  refine r_getR (hm := hm) (hf := rfl) (hd := rfl) (hs := (by first | assumption | exact (g1.1 _).trans rfl)) (hv := (by first | assumption | exact g1.2 _ _ _ rfl | exact M1 _ (by omega) | exact M3 _ (by omega) | exact M4 _ (by omega) | exact Q0 _ _ (by omega) (by omega) | exact Q1 _ _ (by omega) (by omega))) (k := ?_)
  refine r_aload_n hm rfl (k := ?_)
  refine r_getI (hm := hm) (hf := rfl) (hd := rfl) (hs := (by first | assumption | exact (g1.1 _).trans rfl)) (hv := (by first | assumption | exact g1.2 _ _ _ rfl | exact M1 _ (by omega) | exact M3 _ (by omega) | exact M4 _ (by omega) | exact Q0 _ _ (by omega) (by omega) | exact Q1 _ _ (by omega) (by omega))) (k := ?_)
  refine r_iald (hm := hm) (hf := rfl) (hs := (by first | assumption | exact (g1.1 _).trans rfl)) (kk := 3) (hi := by omega) (hn := (by omega)) (hv := (by first | assumption | exact g1.2 _ _ _ rfl | exact M1 _ (by omega) | exact M3 _ (by omega) | exact M4 _ (by omega) | exact Q0 _ _ (by omega) (by omega) | exact Q1 _ _ (by omega) (by omega))) (k := ?_)
  refine r_icmp_ge (t := 74) hm rfl rfl (fun c12 => ?_) (fun c12 => ?_)
  · refine r_iconst hm rfl (k := ?_)
    refine r_ireturn hm rfl rfl (by rfl) (Nat.le_of_ble_eq_true rfl) (Nat.le_of_ble_eq_true rfl) ?_
    have e0 : d = 0 := by omega
    subst e0
    exact ⟨rfl, by rw [← hr]; rfl⟩
  · have hi2 : i < x.1 := by omega
    obtain ⟨ep, ep2⟩ := pcs_eq hok hi2
    refine r_iconst hm rfl (k := ?_)
    refine r_istore_n hm rfl (k := ?_)
    have hgo : fi (fun q => an (fun k => decide (x.2.2.1 0 q k = 1 ∧ mnt x q k = (t0 : Int))) 0 (pcs x q)) i d = if (fun q => an (fun k => decide (x.2.2.1 0 q k = 1 ∧ mnt x q k = (t0 : Int))) 0 (pcs x q)) i = true then (i : Int) else fi (fun q => an (fun k => decide (x.2.2.1 0 q k = 1 ∧ mnt x q k = (t0 : Int))) 0 (pcs x q)) (i + 1) (d - 1) := by
      obtain ⟨e, rfl⟩ : ∃ e, d = e + 1 := ⟨d - 1, by omega⟩
      rfl
    suffices LP : ∀ (d2 k : Nat), k + d2 = pcs x i → an (fun k => decide (x.2.2.1 0 i k = 1 ∧ mnt x i k = (t0 : Int))) k d2 = an (fun k => decide (x.2.2.1 0 i k = 1 ∧ mnt x i k = (t0 : Int))) 0 (pcs x i) → RN 206 17 [some (.inr (.inr (some 1085))), some (.inl (t0 : Int)), some (.inl (i : Int)), some (.inl (k : Int))] [] h 0 0 (fun v h2 => h2 = h ∧ v = some (.inl (fcm x t0))) from LP (pcs x i) 0 (by omega) rfl
    refine fun d2 => Nat.strongRecOn d2 (fun d2 ih2 => ?_)
    intro k hd2 hr2
    refine r_iload_n hm rfl (k := ?_)
    refine r_aload_n hm rfl (k := ?_)
    refine r_iload_n hm rfl (k := ?_)
    refine r_callv (j2 := 181) hm rfl rfl rfl rfl rfl rfl (by first | assumption | exact (g1.1 _).trans rfl) (Nat.le_of_ble_eq_true rfl) (Nat.le_of_ble_eq_true rfl) rfl ⟨Nat.le_of_ble_eq_true rfl, Nat.le_of_ble_eq_true rfl, Nat.le_of_ble_eq_true rfl, Nat.le_of_ble_eq_true rfl, Nat.le_of_ble_eq_true rfl⟩ rfl (m_piecesOf g hc (by omega) hR (i := i) (by omega)) (fun v9 h9 p9 => ?_)
    obtain ⟨e1, e2⟩ := p9
    subst e2
    replace e1 := e1.symm
    subst e1
    change RN 206 23 _ _ _ 0 0 _
    dsimp only [Option.toList, List.cons_append, List.nil_append]
    refine r_icmp_ge (t := 68) hm rfl rfl (fun c23 => ?_) (fun c23 => ?_)
    · refine r_iinc hm rfl (hr := (by omega)) (k := ?_)
      refine r_goto (t := 2) hm rfl (k := ?_)
      have e0 : d2 = 0 := by omega
      subst e0
      have e1 : (fun q => an (fun k => decide (x.2.2.1 0 q k = 1 ∧ mnt x q k = (t0 : Int))) 0 (pcs x q)) i = false := hr2.symm
      rw [e1] at hgo
      exact ih (d - 1) (by omega) (i + 1) _ (by omega) (by rw [← hr, hgo]; rfl)
    · have hz := hok.2.2.1 i k hi2 (by omega)
      unfold okPc at hz
      have hmr := @mnt_rng x i k
      refine r_aload_n hm rfl (k := ?_)
      refine r_getR (hm := hm) (hf := rfl) (hd := rfl) (hs := (by first | assumption | exact (g1.1 _).trans rfl)) (hv := (by first | assumption | exact g1.2 _ _ _ rfl | exact M1 _ (by omega) | exact M3 _ (by omega) | exact M4 _ (by omega) | exact Q0 _ _ (by omega) (by omega) | exact Q1 _ _ (by omega) (by omega))) (k := ?_)
      refine r_aload_n hm rfl (k := ?_)
      refine r_iload_n hm rfl (k := ?_)
      refine r_iload_n hm rfl (k := ?_)
      refine r_callv (j2 := 186) hm rfl rfl rfl rfl rfl rfl (by first | assumption | exact (g1.1 _).trans rfl) (Nat.le_of_ble_eq_true rfl) (Nat.le_of_ble_eq_true rfl) rfl ⟨Nat.le_of_ble_eq_true rfl, Nat.le_of_ble_eq_true rfl, Nat.le_of_ble_eq_true rfl, Nat.le_of_ble_eq_true rfl, Nat.le_of_ble_eq_true rfl⟩ rfl (m_place g hc (by omega) hR (i := i) (k := k) (by omega) (by omega)) (fun v9 h9 p9 => ?_)
      obtain ⟨e1, e2⟩ := p9
      subst e2
      replace e1 := e1.symm
      subst e1
      change RN 206 36 _ _ _ 0 0 _
      dsimp only [Option.toList, List.cons_append, List.nil_append]
      refine r_iald (hm := hm) (hf := rfl) (hs := (by first | assumption | exact (g1.1 _).trans rfl)) (hi := rfl) (hn := (by omega)) (hv := (by first | assumption | exact g1.2 _ _ _ rfl | exact M1 _ (by omega) | exact M3 _ (by omega) | exact M4 _ (by omega) | exact Q0 _ _ (by omega) (by omega) | exact Q1 _ _ (by omega) (by omega))) (k := ?_)
      refine r_iconst hm rfl (k := ?_)
      refine r_icmp_ne (t := 62) hm rfl rfl (fun c38 => ?_) (fun c38 => ?_)
      · refine r_iinc hm rfl (hr := (by omega)) (k := ?_)
        refine r_goto (t := 17) hm rfl (k := ?_)
        have hg2 : an (fun k => decide (x.2.2.1 0 i k = 1 ∧ mnt x i k = (t0 : Int))) k d2 = ((fun k => decide (x.2.2.1 0 i k = 1 ∧ mnt x i k = (t0 : Int))) k || an (fun k => decide (x.2.2.1 0 i k = 1 ∧ mnt x i k = (t0 : Int))) (k + 1) (d2 - 1)) := by
          obtain ⟨e, rfl⟩ : ∃ e, d2 = e + 1 := ⟨d2 - 1, by omega⟩
          rfl
        have e9 : (fun k => decide (x.2.2.1 0 i k = 1 ∧ mnt x i k = (t0 : Int))) k = false := decide_eq_false (by omega)
        rw [e9, Bool.false_or] at hg2
        exact ih2 (d2 - 1) (by omega) (k + 1) (by omega) (by rw [← hr2, hg2])
      · have emt : x.2.2.1 0 i k = 1 → fi (fun q => x.2.1 3 q == x.2.2.1 1 i k) 0 x.1 = mnt x i k := fun e => (if_pos e).symm
        have qM := m_meant g hc (by omega) hR (m := x.2.2.1 1 i k) (by omega)
        rw [emt (by omega)] at qM
        refine r_aload_n hm rfl (k := ?_)
        refine r_aload_n hm rfl (k := ?_)
        refine r_getR (hm := hm) (hf := rfl) (hd := rfl) (hs := (by first | assumption | exact (g1.1 _).trans rfl)) (hv := (by first | assumption | exact g1.2 _ _ _ rfl | exact M1 _ (by omega) | exact M3 _ (by omega) | exact M4 _ (by omega) | exact Q0 _ _ (by omega) (by omega) | exact Q1 _ _ (by omega) (by omega))) (k := ?_)
        refine r_aload_n hm rfl (k := ?_)
        refine r_iload_n hm rfl (k := ?_)
        refine r_iload_n hm rfl (k := ?_)
        refine r_callv (j2 := 186) hm rfl rfl rfl rfl rfl rfl (by first | assumption | exact (g1.1 _).trans rfl) (Nat.le_of_ble_eq_true rfl) (Nat.le_of_ble_eq_true rfl) rfl ⟨Nat.le_of_ble_eq_true rfl, Nat.le_of_ble_eq_true rfl, Nat.le_of_ble_eq_true rfl, Nat.le_of_ble_eq_true rfl, Nat.le_of_ble_eq_true rfl⟩ rfl (m_place g hc (by omega) hR (i := i) (k := k) (by omega) (by omega)) (fun v9 h9 p9 => ?_)
        obtain ⟨e1, e2⟩ := p9
        subst e2
        replace e1 := e1.symm
        subst e1
        change RN 206 52 _ _ _ 0 0 _
        dsimp only [Option.toList, List.cons_append, List.nil_append]
        refine r_iald (hm := hm) (hf := rfl) (hs := (by first | assumption | exact (g1.1 _).trans rfl)) (hi := rfl) (hn := (by omega)) (hv := (by first | assumption | exact g1.2 _ _ _ rfl | exact M1 _ (by omega) | exact M3 _ (by omega) | exact M4 _ (by omega) | exact Q0 _ _ (by omega) (by omega) | exact Q1 _ _ (by omega) (by omega))) (k := ?_)
        refine r_callv (j2 := 199) hm rfl rfl rfl rfl rfl rfl (by first | assumption | exact (g1.1 _).trans rfl) (Nat.le_of_ble_eq_true rfl) (Nat.le_of_ble_eq_true rfl) rfl ⟨Nat.le_of_ble_eq_true rfl, Nat.le_of_ble_eq_true rfl, Nat.le_of_ble_eq_true rfl, Nat.le_of_ble_eq_true rfl, Nat.le_of_ble_eq_true rfl⟩ rfl (qM) (fun v9 h9 p9 => ?_)
        obtain ⟨e1, e2⟩ := p9
        subst e2
        replace e1 := e1.symm
        subst e1
        change RN 206 56 _ _ _ 0 0 _
        dsimp only [Option.toList, List.cons_append, List.nil_append]
        refine r_iload_n hm rfl (k := ?_)
        refine r_icmp_ne (t := 62) hm rfl rfl (fun c57 => ?_) (fun c57 => ?_)
        · refine r_iinc hm rfl (hr := (by omega)) (k := ?_)
          refine r_goto (t := 17) hm rfl (k := ?_)
          have hg2 : an (fun k => decide (x.2.2.1 0 i k = 1 ∧ mnt x i k = (t0 : Int))) k d2 = ((fun k => decide (x.2.2.1 0 i k = 1 ∧ mnt x i k = (t0 : Int))) k || an (fun k => decide (x.2.2.1 0 i k = 1 ∧ mnt x i k = (t0 : Int))) (k + 1) (d2 - 1)) := by
            obtain ⟨e, rfl⟩ : ∃ e, d2 = e + 1 := ⟨d2 - 1, by omega⟩
            rfl
          have e9 : (fun k => decide (x.2.2.1 0 i k = 1 ∧ mnt x i k = (t0 : Int))) k = false := decide_eq_false (by omega)
          rw [e9, Bool.false_or] at hg2
          exact ih2 (d2 - 1) (by omega) (k + 1) (by omega) (by rw [← hr2, hg2])
        · refine r_iload_n hm rfl (k := ?_)
          refine r_ireturn hm rfl rfl (by rfl) (Nat.le_of_ble_eq_true rfl) (Nat.le_of_ble_eq_true rfl) ?_
          have hg2 : an (fun k => decide (x.2.2.1 0 i k = 1 ∧ mnt x i k = (t0 : Int))) k d2 = ((fun k => decide (x.2.2.1 0 i k = 1 ∧ mnt x i k = (t0 : Int))) k || an (fun k => decide (x.2.2.1 0 i k = 1 ∧ mnt x i k = (t0 : Int))) (k + 1) (d2 - 1)) := by
            obtain ⟨e, rfl⟩ : ∃ e, d2 = e + 1 := ⟨d2 - 1, by omega⟩
            rfl
          have e9 : (fun k => decide (x.2.2.1 0 i k = 1 ∧ mnt x i k = (t0 : Int))) k = true := decide_eq_true ⟨by omega, by omega⟩
          rw [e9, Bool.true_or] at hg2
          have e1 : (fun q => an (fun k => decide (x.2.2.1 0 q k = 1 ∧ mnt x q k = (t0 : Int))) 0 (pcs x q)) i = true := by rw [← hg2]; exact hr2.symm
          rw [e1] at hgo
          exact ⟨rfl, by rw [← hr, hgo]; rfl⟩
set_option maxRecDepth 8000 in
theorem m_lonely {L : Nat} {h : Hp} {x : Tx} (g : GG L h) (hc : h.2.1 1085 12 = ((3 : Nat) : Int)) (hR : RepM h 3 x) (hok : okTx x) : RN 205 0 [some (.inr (.inr (some 1085))), some (.inl 0), none, none, none, none] [] h 0 0 (fun v h2 => h2 = h ∧ v = some (.inl (sm (fun i => if (x.2.1 1 i = 2 ∨ x.2.1 1 i = 3) ∧ fcl x i = -1 then (1 : Int) else 0) 0 x.1))) := by
  have hm : mrec 205 = some nM205 := rfl
  obtain ⟨M0, M1, M2, M3, M4, Q0, Q1, Q2, S0, N0, N1⟩ := hR.use
  have n60 := hok.1
  have g1 := g
  refine r_iconst hm rfl (k := ?_)
  refine r_istore_n hm rfl (k := ?_)
  refine r_iconst hm rfl (k := ?_)
  refine r_istore_n hm rfl (k := ?_)
  suffices LP : ∀ (d i : Nat) (s : Int) (z4 z5 : Option Vl), i + d = x.1 → 0 ≤ s ∧ s ≤ i → s + sm (fun i => if (x.2.1 1 i = 2 ∨ x.2.1 1 i = 3) ∧ fcl x i = -1 then (1 : Int) else 0) i d = sm (fun i => if (x.2.1 1 i = 2 ∨ x.2.1 1 i = 3) ∧ fcl x i = -1 then (1 : Int) else 0) 0 x.1 → RN 205 4 [some (.inr (.inr (some 1085))), some (.inl 0), some (.inl s), some (.inl (i : Int)), z4, z5] [] h 0 0 (fun v h2 => h2 = h ∧ v = some (.inl (sm (fun i => if (x.2.1 1 i = 2 ∨ x.2.1 1 i = 3) ∧ fcl x i = -1 then (1 : Int) else 0) 0 x.1))) from LP x.1 0 0 _ _ (by omega) (by omega) (by omega)
  refine fun d => Nat.strongRecOn d (fun d ih => ?_)
  intro i s z4 z5 hd hs hr
  refine r_iload_n hm rfl (k := ?_)
  refine r_aload_n hm rfl (k := ?_)
  refine r_getR (hm := hm) (hf := rfl) (hd := rfl) (hs := (by first | assumption | exact (g1.1 _).trans rfl)) (hv := (by first | assumption | exact g1.2 _ _ _ rfl | exact M1 _ (by omega) | exact M3 _ (by omega) | exact M4 _ (by omega) | exact Q0 _ _ (by omega) (by omega) | exact Q1 _ _ (by omega) (by omega))) (k := ?_)
  refine r_iconst hm rfl (k := ?_)
  refine r_iald (hm := hm) (hf := rfl) (hs := (by first | assumption | exact (g1.1 _).trans rfl)) (kk := 3) (hi := by omega) (hn := (by omega)) (hv := (by first | assumption | exact g1.2 _ _ _ rfl | exact M1 _ (by omega) | exact M3 _ (by omega) | exact M4 _ (by omega) | exact Q0 _ _ (by omega) (by omega) | exact Q1 _ _ (by omega) (by omega))) (k := ?_)
  refine r_icmp_ge (t := 102) hm rfl rfl (fun c11 => ?_) (fun c11 => ?_)
  · refine r_iload_n hm rfl (k := ?_)
    refine r_ireturn hm rfl rfl (by rfl) (Nat.le_of_ble_eq_true rfl) (Nat.le_of_ble_eq_true rfl) ?_
    have e0 : d = 0 := by omega
    subst e0
    have e1 : sm (fun i => if (x.2.1 1 i = 2 ∨ x.2.1 1 i = 3) ∧ fcl x i = -1 then (1 : Int) else 0) i 0 = 0 := rfl
    exact ⟨rfl, by rw [← hr, e1, Int.add_zero]⟩
  · have hi2 : i < x.1 := by omega
    obtain ⟨ep, ep2⟩ := pcs_eq hok hi2
    have hfr : -1 ≤ fcl x i := by rw [← fcm_eq hok]; exact (fi_rng x.1 0).1
    refine r_aload_n hm rfl (k := ?_)
    refine r_getR (hm := hm) (hf := rfl) (hd := rfl) (hs := (by first | assumption | exact (g1.1 _).trans rfl)) (hv := (by first | assumption | exact g1.2 _ _ _ rfl | exact M1 _ (by omega) | exact M3 _ (by omega) | exact M4 _ (by omega) | exact Q0 _ _ (by omega) (by omega) | exact Q1 _ _ (by omega) (by omega))) (k := ?_)
    refine r_sipush hm rfl (k := ?_)
    refine r_iload_n hm rfl (k := ?_)
    refine r_iadd hm rfl (hr := (by omega)) (k := ?_)
    refine r_iald (hm := hm) (hf := rfl) (hs := (by first | assumption | exact (g1.1 _).trans rfl)) (kk := 60 * 3 + i) (hi := by omega) (hn := (by omega)) (hv := (by first | assumption | exact g1.2 _ _ _ rfl | exact M1 _ (by omega) | exact M3 _ (by omega) | exact M4 _ (by omega) | exact Q0 _ _ (by omega) (by omega) | exact Q1 _ _ (by omega) (by omega))) (k := ?_)
    refine r_iconst hm rfl (k := ?_)
    refine r_icmp_eq (t := 42) hm rfl rfl (fun c25 => ?_) (fun c25 => ?_)
    · refine r_iconst hm rfl (k := ?_)
      refine r_goto (t := 47) hm rfl (k := ?_)
      refine r_istore hm rfl (k := ?_)
      refine r_iload hm rfl (k := ?_)
      refine r_if_eq (t := 62) hm rfl rfl (fun c51 => ?_) (fun c51 => ?_)
      · exfalso; omega
      · have qC := m_firstCall g hc hR hok (t0 := i)
        rw [fcm_eq hok] at qC
        refine r_aload_n hm rfl (k := ?_)
        refine r_iload_n hm rfl (k := ?_)
        refine r_callv (j2 := 206) hm rfl rfl rfl rfl rfl rfl (by first | assumption | exact (g1.1 _).trans rfl) (Nat.le_of_ble_eq_true rfl) (Nat.le_of_ble_eq_true rfl) rfl ⟨Nat.le_of_ble_eq_true rfl, Nat.le_of_ble_eq_true rfl, Nat.le_of_ble_eq_true rfl, Nat.le_of_ble_eq_true rfl, Nat.le_of_ble_eq_true rfl⟩ rfl (qC) (fun v9 h9 p9 => ?_)
        obtain ⟨e1, e2⟩ := p9
        subst e2
        replace e1 := e1.symm
        subst e1
        change RN 205 59 _ _ _ 0 0 _
        dsimp only [Option.toList, List.cons_append, List.nil_append]
        refine r_goto (t := 63) hm rfl (k := ?_)
        refine r_istore hm rfl (k := ?_)
        refine r_iload_n hm rfl (k := ?_)
        refine r_iload hm rfl (k := ?_)
        refine r_if_eq (t := 93) hm rfl rfl (fun c68 => ?_) (fun c68 => ?_)
        · exfalso; omega
        · refine r_iload_n hm rfl (k := ?_)
          refine r_if_eq (t := 84) hm rfl rfl (fun c72 => ?_) (fun c72 => ?_)
          · refine r_iload hm rfl (k := ?_)
            refine r_if_ge (t := 93) hm rfl rfl (fun c86 => ?_) (fun c86 => ?_)
            · refine r_iconst hm rfl (k := ?_)
              refine r_iadd hm rfl (hr := (by omega)) (k := ?_)
              refine r_istore_n hm rfl (k := ?_)
              refine r_iinc hm rfl (hr := (by omega)) (k := ?_)
              refine r_goto (t := 4) hm rfl (k := ?_)
              have hg2 := sm_go (f := (fun i => if (x.2.1 1 i = 2 ∨ x.2.1 1 i = 3) ∧ fcl x i = -1 then (1 : Int) else 0)) (i := i) (d := d) (by omega)
              try dsimp only at hg2
              rw [if_neg (by omega)] at hg2
              exact ih (d - 1) (by omega) (i + 1) _ _ _ (by omega) (by omega) (by omega)
            · refine r_iconst hm rfl (k := ?_)
              refine r_goto (t := 94) hm rfl (k := ?_)
              refine r_iadd hm rfl (hr := (by omega)) (k := ?_)
              refine r_istore_n hm rfl (k := ?_)
              refine r_iinc hm rfl (hr := (by omega)) (k := ?_)
              refine r_goto (t := 4) hm rfl (k := ?_)
              have hg2 := sm_go (f := (fun i => if (x.2.1 1 i = 2 ∨ x.2.1 1 i = 3) ∧ fcl x i = -1 then (1 : Int) else 0)) (i := i) (d := d) (by omega)
              try dsimp only at hg2
              rw [if_pos (by omega)] at hg2
              exact ih (d - 1) (by omega) (i + 1) _ _ _ (by omega) (by omega) (by omega)
          · exfalso; omega
    · refine r_aload_n hm rfl (k := ?_)
      refine r_getR (hm := hm) (hf := rfl) (hd := rfl) (hs := (by first | assumption | exact (g1.1 _).trans rfl)) (hv := (by first | assumption | exact g1.2 _ _ _ rfl | exact M1 _ (by omega) | exact M3 _ (by omega) | exact M4 _ (by omega) | exact Q0 _ _ (by omega) (by omega) | exact Q1 _ _ (by omega) (by omega))) (k := ?_)
      refine r_sipush hm rfl (k := ?_)
      refine r_iload_n hm rfl (k := ?_)
      refine r_iadd hm rfl (hr := (by omega)) (k := ?_)
      refine r_iald (hm := hm) (hf := rfl) (hs := (by first | assumption | exact (g1.1 _).trans rfl)) (kk := 60 * 3 + i) (hi := by omega) (hn := (by omega)) (hv := (by first | assumption | exact g1.2 _ _ _ rfl | exact M1 _ (by omega) | exact M3 _ (by omega) | exact M4 _ (by omega) | exact Q0 _ _ (by omega) (by omega) | exact Q1 _ _ (by omega) (by omega))) (k := ?_)
      refine r_iconst hm rfl (k := ?_)
      refine r_icmp_ne (t := 46) hm rfl rfl (fun c39 => ?_) (fun c39 => ?_)
      · refine r_iconst hm rfl (k := ?_)
        refine r_istore hm rfl (k := ?_)
        refine r_iload hm rfl (k := ?_)
        refine r_if_eq (t := 62) hm rfl rfl (fun c51 => ?_) (fun c51 => ?_)
        · refine r_iconst hm rfl (k := ?_)
          refine r_istore hm rfl (k := ?_)
          refine r_iload_n hm rfl (k := ?_)
          refine r_iload hm rfl (k := ?_)
          refine r_if_eq (t := 93) hm rfl rfl (fun c68 => ?_) (fun c68 => ?_)
          · refine r_iconst hm rfl (k := ?_)
            refine r_iadd hm rfl (hr := (by omega)) (k := ?_)
            refine r_istore_n hm rfl (k := ?_)
            refine r_iinc hm rfl (hr := (by omega)) (k := ?_)
            refine r_goto (t := 4) hm rfl (k := ?_)
            have hg2 := sm_go (f := (fun i => if (x.2.1 1 i = 2 ∨ x.2.1 1 i = 3) ∧ fcl x i = -1 then (1 : Int) else 0)) (i := i) (d := d) (by omega)
            try dsimp only at hg2
            rw [if_neg (by omega)] at hg2
            exact ih (d - 1) (by omega) (i + 1) _ _ _ (by omega) (by omega) (by omega)
          · exfalso; omega
        · exfalso; omega
      · refine r_iconst hm rfl (k := ?_)
        refine r_goto (t := 47) hm rfl (k := ?_)
        refine r_istore hm rfl (k := ?_)
        refine r_iload hm rfl (k := ?_)
        refine r_if_eq (t := 62) hm rfl rfl (fun c51 => ?_) (fun c51 => ?_)
        · exfalso; omega
        · have qC := m_firstCall g hc hR hok (t0 := i)
          rw [fcm_eq hok] at qC
          refine r_aload_n hm rfl (k := ?_)
          refine r_iload_n hm rfl (k := ?_)
          refine r_callv (j2 := 206) hm rfl rfl rfl rfl rfl rfl (by first | assumption | exact (g1.1 _).trans rfl) (Nat.le_of_ble_eq_true rfl) (Nat.le_of_ble_eq_true rfl) rfl ⟨Nat.le_of_ble_eq_true rfl, Nat.le_of_ble_eq_true rfl, Nat.le_of_ble_eq_true rfl, Nat.le_of_ble_eq_true rfl, Nat.le_of_ble_eq_true rfl⟩ rfl (qC) (fun v9 h9 p9 => ?_)
          obtain ⟨e1, e2⟩ := p9
          subst e2
          replace e1 := e1.symm
          subst e1
          change RN 205 59 _ _ _ 0 0 _
          dsimp only [Option.toList, List.cons_append, List.nil_append]
          refine r_goto (t := 63) hm rfl (k := ?_)
          refine r_istore hm rfl (k := ?_)
          refine r_iload_n hm rfl (k := ?_)
          refine r_iload hm rfl (k := ?_)
          refine r_if_eq (t := 93) hm rfl rfl (fun c68 => ?_) (fun c68 => ?_)
          · exfalso; omega
          · refine r_iload_n hm rfl (k := ?_)
            refine r_if_eq (t := 84) hm rfl rfl (fun c72 => ?_) (fun c72 => ?_)
            · refine r_iload hm rfl (k := ?_)
              refine r_if_ge (t := 93) hm rfl rfl (fun c86 => ?_) (fun c86 => ?_)
              · refine r_iconst hm rfl (k := ?_)
                refine r_iadd hm rfl (hr := (by omega)) (k := ?_)
                refine r_istore_n hm rfl (k := ?_)
                refine r_iinc hm rfl (hr := (by omega)) (k := ?_)
                refine r_goto (t := 4) hm rfl (k := ?_)
                have hg2 := sm_go (f := (fun i => if (x.2.1 1 i = 2 ∨ x.2.1 1 i = 3) ∧ fcl x i = -1 then (1 : Int) else 0)) (i := i) (d := d) (by omega)
                try dsimp only at hg2
                rw [if_neg (by omega)] at hg2
                exact ih (d - 1) (by omega) (i + 1) _ _ _ (by omega) (by omega) (by omega)
              · refine r_iconst hm rfl (k := ?_)
                refine r_goto (t := 94) hm rfl (k := ?_)
                refine r_iadd hm rfl (hr := (by omega)) (k := ?_)
                refine r_istore_n hm rfl (k := ?_)
                refine r_iinc hm rfl (hr := (by omega)) (k := ?_)
                refine r_goto (t := 4) hm rfl (k := ?_)
                have hg2 := sm_go (f := (fun i => if (x.2.1 1 i = 2 ∨ x.2.1 1 i = 3) ∧ fcl x i = -1 then (1 : Int) else 0)) (i := i) (d := d) (by omega)
                try dsimp only at hg2
                rw [if_pos (by omega)] at hg2
                exact ih (d - 1) (by omega) (i + 1) _ _ _ (by omega) (by omega) (by omega)
            · exfalso; omega
set_option maxRecDepth 8000 in
theorem m_late {L : Nat} {h : Hp} {x : Tx} (g : GG L h) (hc : h.2.1 1085 12 = ((3 : Nat) : Int)) (hR : RepM h 3 x) (hok : okTx x) : RN 205 0 [some (.inr (.inr (some 1085))), some (.inl 1), none, none, none, none] [] h 0 0 (fun v h2 => h2 = h ∧ v = some (.inl (sm (fun i => if (x.2.1 1 i = 2 ∨ x.2.1 1 i = 3) ∧ (i : Int) < fcl x i then (1 : Int) else 0) 0 x.1))) := by
  have hm : mrec 205 = some nM205 := rfl
  obtain ⟨M0, M1, M2, M3, M4, Q0, Q1, Q2, S0, N0, N1⟩ := hR.use
  have n60 := hok.1
  have g1 := g
  refine r_iconst hm rfl (k := ?_)
  refine r_istore_n hm rfl (k := ?_)
  refine r_iconst hm rfl (k := ?_)
  refine r_istore_n hm rfl (k := ?_)
  suffices LP : ∀ (d i : Nat) (s : Int) (z4 z5 : Option Vl), i + d = x.1 → 0 ≤ s ∧ s ≤ i → s + sm (fun i => if (x.2.1 1 i = 2 ∨ x.2.1 1 i = 3) ∧ (i : Int) < fcl x i then (1 : Int) else 0) i d = sm (fun i => if (x.2.1 1 i = 2 ∨ x.2.1 1 i = 3) ∧ (i : Int) < fcl x i then (1 : Int) else 0) 0 x.1 → RN 205 4 [some (.inr (.inr (some 1085))), some (.inl 1), some (.inl s), some (.inl (i : Int)), z4, z5] [] h 0 0 (fun v h2 => h2 = h ∧ v = some (.inl (sm (fun i => if (x.2.1 1 i = 2 ∨ x.2.1 1 i = 3) ∧ (i : Int) < fcl x i then (1 : Int) else 0) 0 x.1))) from LP x.1 0 0 _ _ (by omega) (by omega) (by omega)
  refine fun d => Nat.strongRecOn d (fun d ih => ?_)
  intro i s z4 z5 hd hs hr
  refine r_iload_n hm rfl (k := ?_)
  refine r_aload_n hm rfl (k := ?_)
  refine r_getR (hm := hm) (hf := rfl) (hd := rfl) (hs := (by first | assumption | exact (g1.1 _).trans rfl)) (hv := (by first | assumption | exact g1.2 _ _ _ rfl | exact M1 _ (by omega) | exact M3 _ (by omega) | exact M4 _ (by omega) | exact Q0 _ _ (by omega) (by omega) | exact Q1 _ _ (by omega) (by omega))) (k := ?_)
  refine r_iconst hm rfl (k := ?_)
  refine r_iald (hm := hm) (hf := rfl) (hs := (by first | assumption | exact (g1.1 _).trans rfl)) (kk := 3) (hi := by omega) (hn := (by omega)) (hv := (by first | assumption | exact g1.2 _ _ _ rfl | exact M1 _ (by omega) | exact M3 _ (by omega) | exact M4 _ (by omega) | exact Q0 _ _ (by omega) (by omega) | exact Q1 _ _ (by omega) (by omega))) (k := ?_)
  refine r_icmp_ge (t := 102) hm rfl rfl (fun c11 => ?_) (fun c11 => ?_)
  · refine r_iload_n hm rfl (k := ?_)
    refine r_ireturn hm rfl rfl (by rfl) (Nat.le_of_ble_eq_true rfl) (Nat.le_of_ble_eq_true rfl) ?_
    have e0 : d = 0 := by omega
    subst e0
    have e1 : sm (fun i => if (x.2.1 1 i = 2 ∨ x.2.1 1 i = 3) ∧ (i : Int) < fcl x i then (1 : Int) else 0) i 0 = 0 := rfl
    exact ⟨rfl, by rw [← hr, e1, Int.add_zero]⟩
  · have hi2 : i < x.1 := by omega
    obtain ⟨ep, ep2⟩ := pcs_eq hok hi2
    have hfr : -1 ≤ fcl x i := by rw [← fcm_eq hok]; exact (fi_rng x.1 0).1
    refine r_aload_n hm rfl (k := ?_)
    refine r_getR (hm := hm) (hf := rfl) (hd := rfl) (hs := (by first | assumption | exact (g1.1 _).trans rfl)) (hv := (by first | assumption | exact g1.2 _ _ _ rfl | exact M1 _ (by omega) | exact M3 _ (by omega) | exact M4 _ (by omega) | exact Q0 _ _ (by omega) (by omega) | exact Q1 _ _ (by omega) (by omega))) (k := ?_)
    refine r_sipush hm rfl (k := ?_)
    refine r_iload_n hm rfl (k := ?_)
    refine r_iadd hm rfl (hr := (by omega)) (k := ?_)
    refine r_iald (hm := hm) (hf := rfl) (hs := (by first | assumption | exact (g1.1 _).trans rfl)) (kk := 60 * 3 + i) (hi := by omega) (hn := (by omega)) (hv := (by first | assumption | exact g1.2 _ _ _ rfl | exact M1 _ (by omega) | exact M3 _ (by omega) | exact M4 _ (by omega) | exact Q0 _ _ (by omega) (by omega) | exact Q1 _ _ (by omega) (by omega))) (k := ?_)
    refine r_iconst hm rfl (k := ?_)
    refine r_icmp_eq (t := 42) hm rfl rfl (fun c25 => ?_) (fun c25 => ?_)
    · refine r_iconst hm rfl (k := ?_)
      refine r_goto (t := 47) hm rfl (k := ?_)
      refine r_istore hm rfl (k := ?_)
      refine r_iload hm rfl (k := ?_)
      refine r_if_eq (t := 62) hm rfl rfl (fun c51 => ?_) (fun c51 => ?_)
      · exfalso; omega
      · have qC := m_firstCall g hc hR hok (t0 := i)
        rw [fcm_eq hok] at qC
        refine r_aload_n hm rfl (k := ?_)
        refine r_iload_n hm rfl (k := ?_)
        refine r_callv (j2 := 206) hm rfl rfl rfl rfl rfl rfl (by first | assumption | exact (g1.1 _).trans rfl) (Nat.le_of_ble_eq_true rfl) (Nat.le_of_ble_eq_true rfl) rfl ⟨Nat.le_of_ble_eq_true rfl, Nat.le_of_ble_eq_true rfl, Nat.le_of_ble_eq_true rfl, Nat.le_of_ble_eq_true rfl, Nat.le_of_ble_eq_true rfl⟩ rfl (qC) (fun v9 h9 p9 => ?_)
        obtain ⟨e1, e2⟩ := p9
        subst e2
        replace e1 := e1.symm
        subst e1
        change RN 205 59 _ _ _ 0 0 _
        dsimp only [Option.toList, List.cons_append, List.nil_append]
        refine r_goto (t := 63) hm rfl (k := ?_)
        refine r_istore hm rfl (k := ?_)
        refine r_iload_n hm rfl (k := ?_)
        refine r_iload hm rfl (k := ?_)
        refine r_if_eq (t := 93) hm rfl rfl (fun c68 => ?_) (fun c68 => ?_)
        · exfalso; omega
        · refine r_iload_n hm rfl (k := ?_)
          refine r_if_eq (t := 84) hm rfl rfl (fun c72 => ?_) (fun c72 => ?_)
          · exfalso; omega
          · refine r_iload hm rfl (k := ?_)
            refine r_iload_n hm rfl (k := ?_)
            refine r_icmp_le (t := 93) hm rfl rfl (fun c78 => ?_) (fun c78 => ?_)
            · refine r_iconst hm rfl (k := ?_)
              refine r_iadd hm rfl (hr := (by omega)) (k := ?_)
              refine r_istore_n hm rfl (k := ?_)
              refine r_iinc hm rfl (hr := (by omega)) (k := ?_)
              refine r_goto (t := 4) hm rfl (k := ?_)
              have hg2 := sm_go (f := (fun i => if (x.2.1 1 i = 2 ∨ x.2.1 1 i = 3) ∧ (i : Int) < fcl x i then (1 : Int) else 0)) (i := i) (d := d) (by omega)
              try dsimp only at hg2
              rw [if_neg (by omega)] at hg2
              exact ih (d - 1) (by omega) (i + 1) _ _ _ (by omega) (by omega) (by omega)
            · refine r_goto (t := 89) hm rfl (k := ?_)
              refine r_iconst hm rfl (k := ?_)
              refine r_goto (t := 94) hm rfl (k := ?_)
              refine r_iadd hm rfl (hr := (by omega)) (k := ?_)
              refine r_istore_n hm rfl (k := ?_)
              refine r_iinc hm rfl (hr := (by omega)) (k := ?_)
              refine r_goto (t := 4) hm rfl (k := ?_)
              have hg2 := sm_go (f := (fun i => if (x.2.1 1 i = 2 ∨ x.2.1 1 i = 3) ∧ (i : Int) < fcl x i then (1 : Int) else 0)) (i := i) (d := d) (by omega)
              try dsimp only at hg2
              rw [if_pos (by omega)] at hg2
              exact ih (d - 1) (by omega) (i + 1) _ _ _ (by omega) (by omega) (by omega)
    · refine r_aload_n hm rfl (k := ?_)
      refine r_getR (hm := hm) (hf := rfl) (hd := rfl) (hs := (by first | assumption | exact (g1.1 _).trans rfl)) (hv := (by first | assumption | exact g1.2 _ _ _ rfl | exact M1 _ (by omega) | exact M3 _ (by omega) | exact M4 _ (by omega) | exact Q0 _ _ (by omega) (by omega) | exact Q1 _ _ (by omega) (by omega))) (k := ?_)
      refine r_sipush hm rfl (k := ?_)
      refine r_iload_n hm rfl (k := ?_)
      refine r_iadd hm rfl (hr := (by omega)) (k := ?_)
      refine r_iald (hm := hm) (hf := rfl) (hs := (by first | assumption | exact (g1.1 _).trans rfl)) (kk := 60 * 3 + i) (hi := by omega) (hn := (by omega)) (hv := (by first | assumption | exact g1.2 _ _ _ rfl | exact M1 _ (by omega) | exact M3 _ (by omega) | exact M4 _ (by omega) | exact Q0 _ _ (by omega) (by omega) | exact Q1 _ _ (by omega) (by omega))) (k := ?_)
      refine r_iconst hm rfl (k := ?_)
      refine r_icmp_ne (t := 46) hm rfl rfl (fun c39 => ?_) (fun c39 => ?_)
      · refine r_iconst hm rfl (k := ?_)
        refine r_istore hm rfl (k := ?_)
        refine r_iload hm rfl (k := ?_)
        refine r_if_eq (t := 62) hm rfl rfl (fun c51 => ?_) (fun c51 => ?_)
        · refine r_iconst hm rfl (k := ?_)
          refine r_istore hm rfl (k := ?_)
          refine r_iload_n hm rfl (k := ?_)
          refine r_iload hm rfl (k := ?_)
          refine r_if_eq (t := 93) hm rfl rfl (fun c68 => ?_) (fun c68 => ?_)
          · refine r_iconst hm rfl (k := ?_)
            refine r_iadd hm rfl (hr := (by omega)) (k := ?_)
            refine r_istore_n hm rfl (k := ?_)
            refine r_iinc hm rfl (hr := (by omega)) (k := ?_)
            refine r_goto (t := 4) hm rfl (k := ?_)
            have hg2 := sm_go (f := (fun i => if (x.2.1 1 i = 2 ∨ x.2.1 1 i = 3) ∧ (i : Int) < fcl x i then (1 : Int) else 0)) (i := i) (d := d) (by omega)
            try dsimp only at hg2
            rw [if_neg (by omega)] at hg2
            exact ih (d - 1) (by omega) (i + 1) _ _ _ (by omega) (by omega) (by omega)
          · exfalso; omega
        · exfalso; omega
      · refine r_iconst hm rfl (k := ?_)
        refine r_goto (t := 47) hm rfl (k := ?_)
        refine r_istore hm rfl (k := ?_)
        refine r_iload hm rfl (k := ?_)
        refine r_if_eq (t := 62) hm rfl rfl (fun c51 => ?_) (fun c51 => ?_)
        · exfalso; omega
        · have qC := m_firstCall g hc hR hok (t0 := i)
          rw [fcm_eq hok] at qC
          refine r_aload_n hm rfl (k := ?_)
          refine r_iload_n hm rfl (k := ?_)
          refine r_callv (j2 := 206) hm rfl rfl rfl rfl rfl rfl (by first | assumption | exact (g1.1 _).trans rfl) (Nat.le_of_ble_eq_true rfl) (Nat.le_of_ble_eq_true rfl) rfl ⟨Nat.le_of_ble_eq_true rfl, Nat.le_of_ble_eq_true rfl, Nat.le_of_ble_eq_true rfl, Nat.le_of_ble_eq_true rfl, Nat.le_of_ble_eq_true rfl⟩ rfl (qC) (fun v9 h9 p9 => ?_)
          obtain ⟨e1, e2⟩ := p9
          subst e2
          replace e1 := e1.symm
          subst e1
          change RN 205 59 _ _ _ 0 0 _
          dsimp only [Option.toList, List.cons_append, List.nil_append]
          refine r_goto (t := 63) hm rfl (k := ?_)
          refine r_istore hm rfl (k := ?_)
          refine r_iload_n hm rfl (k := ?_)
          refine r_iload hm rfl (k := ?_)
          refine r_if_eq (t := 93) hm rfl rfl (fun c68 => ?_) (fun c68 => ?_)
          · exfalso; omega
          · refine r_iload_n hm rfl (k := ?_)
            refine r_if_eq (t := 84) hm rfl rfl (fun c72 => ?_) (fun c72 => ?_)
            · exfalso; omega
            · refine r_iload hm rfl (k := ?_)
              refine r_iload_n hm rfl (k := ?_)
              refine r_icmp_le (t := 93) hm rfl rfl (fun c78 => ?_) (fun c78 => ?_)
              · refine r_iconst hm rfl (k := ?_)
                refine r_iadd hm rfl (hr := (by omega)) (k := ?_)
                refine r_istore_n hm rfl (k := ?_)
                refine r_iinc hm rfl (hr := (by omega)) (k := ?_)
                refine r_goto (t := 4) hm rfl (k := ?_)
                have hg2 := sm_go (f := (fun i => if (x.2.1 1 i = 2 ∨ x.2.1 1 i = 3) ∧ (i : Int) < fcl x i then (1 : Int) else 0)) (i := i) (d := d) (by omega)
                try dsimp only at hg2
                rw [if_neg (by omega)] at hg2
                exact ih (d - 1) (by omega) (i + 1) _ _ _ (by omega) (by omega) (by omega)
              · refine r_goto (t := 89) hm rfl (k := ?_)
                refine r_iconst hm rfl (k := ?_)
                refine r_goto (t := 94) hm rfl (k := ?_)
                refine r_iadd hm rfl (hr := (by omega)) (k := ?_)
                refine r_istore_n hm rfl (k := ?_)
                refine r_iinc hm rfl (hr := (by omega)) (k := ?_)
                refine r_goto (t := 4) hm rfl (k := ?_)
                have hg2 := sm_go (f := (fun i => if (x.2.1 1 i = 2 ∨ x.2.1 1 i = 3) ∧ (i : Int) < fcl x i then (1 : Int) else 0)) (i := i) (d := d) (by omega)
                try dsimp only at hg2
                rw [if_pos (by omega)] at hg2
                exact ih (d - 1) (by omega) (i + 1) _ _ _ (by omega) (by omega) (by omega)
