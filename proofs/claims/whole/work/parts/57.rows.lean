/-! the reference changes the text -/
/-- row j of the reference holds item q of x -/
def Rw (h : Hp) (j : Nat) (x : Tx) (q : Nat) : Prop := (∀ f, f < 5 → h.2.1 (1088 + f) j = x.2.1 f q) ∧ ∀ g k : Nat, g < 3 → k < 20 → (k : Int) < x.2.1 4 q → h.2.1 (1093 + g) (20 * j + k) = x.2.2.1 g q k
/-- places that rows from a to b fill -/
def rgR (to : Nat) (a k : Nat) : Prop := (1088 ≤ a ∧ a ≤ 1092 ∧ k = to) ∨ (1093 ≤ a ∧ a ≤ 1095 ∧ 20 * to ≤ k ∧ k < 20 * to + 20)
theorem Rw.same {S : Nat → Nat → Prop} {h h2 : Hp} {j : Nat} {x : Tx} {q : Nat} (r : Rw h j x q) (m : Sm S h h2) (hS : ∀ a k, S a k → ¬ rgR j a k) : Rw h2 j x q := by
  refine ⟨fun f hf => ?_, fun g k hg hk h4 => ?_⟩
  · rw [m.2.2 _ _ (fun z => hS _ _ z (by unfold rgR; omega))]; exact r.1 f hf
  · rw [m.2.2 _ _ (fun z => hS _ _ z (by unfold rgR; omega))]; exact r.2 g k hg hk h4
theorem RepM.rw3 {h : Hp} {x : Tx} (R : RepM h 3 x) {i : Nat} (hi : i < x.1) : Rw h (180 + i) x i := by
  obtain ⟨R1, R2, R3, R4, R5⟩ := R
  exact ⟨fun f hf => R3 f i hf hi, fun g k hg _ h4 => R4 g i k hg hi h4⟩
theorem rw3_rep {h : Hp} {x y : Tx} (h20 : ∀ i, i < y.1 → y.2.1 4 i ≤ 20) (hn : y.1 ≤ 60) (h1 : h.2.1 1086 3 = (y.1 : Int)) (hr : ∀ i, i < y.1 → Rw h (180 + i) y i) (hs : ∀ k, k < 13 → h.2.1 1096 (13 * 3 + k) = y.2.2.2 k) : RepM h 3 y := ⟨h1, hn, fun f i hf hi => (hr i hi).1 f hf, fun g i k hg hi h4 => (hr i hi).2 g k hg (by have := h20 i hi; omega) h4, hs⟩
theorem InvM.mut {L : Nat} {h h2 : Hp} {S : St} {x : Tx} {gv : Nat} {T : Nat → Nat → Prop} (I : InvM L h S) (ok : okS S) (m : Sm T h h2) (hT : ∀ a k, T a k → (a = 1085 ∧ k ≠ 49 ∧ k ≠ 50) ∨ (a = 1086 ∧ k = 3) ∨ (1088 ≤ a ∧ a ≤ 1092 ∧ 180 ≤ k) ∨ (1093 ≤ a ∧ a ≤ 1095 ∧ 3600 ≤ k)) (R : RepM h2 3 x) (h9 : h2.2.1 1085 11 = (gv : Int)) : InvM L h2 (x, S.2.1, S.2.2.1, gv, S.2.2.2.2.1, S.2.2.2.2.2.1, S.2.2.2.2.2.2) := by
  obtain ⟨I1, I2, I3, I4, I5, I6, I7, I8⟩ := I
  have hi : ∀ a k, ¬ ((a = 1085 ∧ k ≠ 49 ∧ k ≠ 50) ∨ (a = 1086 ∧ k = 3) ∨ (1088 ≤ a ∧ a ≤ 1092 ∧ 180 ≤ k) ∨ (1093 ≤ a ∧ a ≤ 1095 ∧ 3600 ≤ k)) → h2.2.1 a k = h.2.1 a k := fun a k e => m.2.2 a k (fun z => e (hT a k z))
  refine ⟨m.gg I1, R, fun v hv e => ?_, fun v hv => (hi _ _ (by omega)).trans (I4 v hv), h9, (hi _ _ (by omega)).trans I6, fun k hk => (hi _ _ (by omega)).trans (I7 k hk), (hi _ _ (by omega)).trans I8⟩
  obtain ⟨R1, R2, R3, R4, R5⟩ := I3 v hv e
  refine ⟨(hi _ _ (by omega)).trans R1, R2, fun f i hf hi2 => (by have hi3 : i < (S.2.1 v).1 := hi2; exact (hi _ _ (by omega)).trans (R3 f i hf hi2)), fun g i k hg hi2 hk => ?_, fun k hk => (hi _ _ (by omega)).trans (R5 k hk)⟩
  have hi3 : i < (S.2.1 v).1 := hi2
  have hk3 : (k : Int) < (S.2.1 v).2.1 4 i := hk
  have h4 := (ok.2.1 v hv).2.1 i hi2
  unfold okIt at h4
  exact (hi _ _ (by omega)).trans (R4 g i k hg hi2 hk)
set_option maxRecDepth 8000 in
theorem m_copy {L : Nat} {h : Hp} {fr to : Nat} (g : GG L h) (hf : fr < 240) (hto : to < 240) (hne : fr ≠ to) : RN 163 0 [some (.inr (.inr (some 1085))), some (.inl (fr : Int)), some (.inl (to : Int)), none] [] h 0 0 (fun v h2 => Sm (rgR to) h h2 ∧ (∀ f, f < 5 → h2.2.1 (1088 + f) to = h.2.1 (1088 + f) fr) ∧ (∀ g9 k : Nat, g9 < 3 → k < 20 → h2.2.1 (1093 + g9) (20 * to + k) = h.2.1 (1093 + g9) (20 * fr + k)) ∧ v = none) := by
  have hm : mrec 163 = some nM163 := rfl
  have g1 := g
  refine r_aload_n hm rfl (k := ?_)
  refine r_getR (hm := hm) (hf := rfl) (hd := rfl) (hs := (by first | assumption | exact (g1.1 _).trans rfl)) (hv := (by first | exact g1.2 _ _ _ rfl | exact rfl)) (k := ?_)
  refine r_iload_n hm rfl (k := ?_)
  refine r_aload_n hm rfl (k := ?_)
  refine r_getR (hm := hm) (hf := rfl) (hd := rfl) (hs := (by first | assumption | exact (g1.1 _).trans rfl)) (hv := (by first | exact g1.2 _ _ _ rfl | exact rfl)) (k := ?_)
  refine r_iload_n hm rfl (k := ?_)
  refine r_iald (hm := hm) (hf := rfl) (hs := (by first | assumption | exact (g1.1 _).trans rfl)) (kk := fr) (hi := by omega) (hn := (by omega)) (hv := (by first | exact g1.2 _ _ _ rfl | exact rfl)) (k := ?_)
  refine r_iast (hm := hm) (hf := rfl) (h28 := (by omega)) (hs := (by first | assumption | exact (g1.1 _).trans rfl)) (kk := to) (hi := by omega) (hn := (by omega)) (k := ?_)
  refine r_aload_n hm rfl (k := ?_)
  refine r_getR (hm := hm) (hf := rfl) (hd := rfl) (hs := (by first | assumption | exact (g1.1 _).trans rfl)) (hv := (by first | exact g1.2 _ _ _ rfl | exact rfl)) (k := ?_)
  refine r_iload_n hm rfl (k := ?_)
  refine r_aload_n hm rfl (k := ?_)
  refine r_getR (hm := hm) (hf := rfl) (hd := rfl) (hs := (by first | assumption | exact (g1.1 _).trans rfl)) (hv := (by first | exact g1.2 _ _ _ rfl | exact rfl)) (k := ?_)
  refine r_iload_n hm rfl (k := ?_)
  refine r_iald (hm := hm) (hf := rfl) (hs := (by first | assumption | exact (g1.1 _).trans rfl)) (kk := fr) (hi := by omega) (hn := (by omega)) (hv := (putI_ne (by omega))) (k := ?_)
  refine r_iast (hm := hm) (hf := rfl) (h28 := (by omega)) (hs := (by first | assumption | exact (g1.1 _).trans rfl)) (kk := to) (hi := by omega) (hn := (by omega)) (k := ?_)
  refine r_aload_n hm rfl (k := ?_)
  refine r_getR (hm := hm) (hf := rfl) (hd := rfl) (hs := (by first | assumption | exact (g1.1 _).trans rfl)) (hv := (by first | exact g1.2 _ _ _ rfl | exact rfl)) (k := ?_)
  refine r_iload_n hm rfl (k := ?_)
  refine r_aload_n hm rfl (k := ?_)
  refine r_getR (hm := hm) (hf := rfl) (hd := rfl) (hs := (by first | assumption | exact (g1.1 _).trans rfl)) (hv := (by first | exact g1.2 _ _ _ rfl | exact rfl)) (k := ?_)
  refine r_iload_n hm rfl (k := ?_)
  refine r_iald (hm := hm) (hf := rfl) (hs := (by first | assumption | exact (g1.1 _).trans rfl)) (kk := fr) (hi := by omega) (hn := (by omega)) (hv := ((putI_ne (by omega)).trans (putI_ne (by omega)))) (k := ?_)
  refine r_iast (hm := hm) (hf := rfl) (h28 := (by omega)) (hs := (by first | assumption | exact (g1.1 _).trans rfl)) (kk := to) (hi := by omega) (hn := (by omega)) (k := ?_)
  refine r_aload_n hm rfl (k := ?_)
  refine r_getR (hm := hm) (hf := rfl) (hd := rfl) (hs := (by first | assumption | exact (g1.1 _).trans rfl)) (hv := (by first | exact g1.2 _ _ _ rfl | exact rfl)) (k := ?_)
  refine r_iload_n hm rfl (k := ?_)
  refine r_aload_n hm rfl (k := ?_)
  refine r_getR (hm := hm) (hf := rfl) (hd := rfl) (hs := (by first | assumption | exact (g1.1 _).trans rfl)) (hv := (by first | exact g1.2 _ _ _ rfl | exact rfl)) (k := ?_)
  refine r_iload_n hm rfl (k := ?_)
  refine r_iald (hm := hm) (hf := rfl) (hs := (by first | assumption | exact (g1.1 _).trans rfl)) (kk := fr) (hi := by omega) (hn := (by omega)) (hv := ((putI_ne (by omega)).trans ((putI_ne (by omega)).trans (putI_ne (by omega))))) (k := ?_)
  refine r_iast (hm := hm) (hf := rfl) (h28 := (by omega)) (hs := (by first | assumption | exact (g1.1 _).trans rfl)) (kk := to) (hi := by omega) (hn := (by omega)) (k := ?_)
  refine r_aload_n hm rfl (k := ?_)
  refine r_getR (hm := hm) (hf := rfl) (hd := rfl) (hs := (by first | assumption | exact (g1.1 _).trans rfl)) (hv := (by first | exact g1.2 _ _ _ rfl | exact rfl)) (k := ?_)
  refine r_iload_n hm rfl (k := ?_)
  refine r_aload_n hm rfl (k := ?_)
  refine r_getR (hm := hm) (hf := rfl) (hd := rfl) (hs := (by first | assumption | exact (g1.1 _).trans rfl)) (hv := (by first | exact g1.2 _ _ _ rfl | exact rfl)) (k := ?_)
  refine r_iload_n hm rfl (k := ?_)
  refine r_iald (hm := hm) (hf := rfl) (hs := (by first | assumption | exact (g1.1 _).trans rfl)) (kk := fr) (hi := by omega) (hn := (by omega)) (hv := ((putI_ne (by omega)).trans ((putI_ne (by omega)).trans ((putI_ne (by omega)).trans (putI_ne (by omega)))))) (k := ?_)
  refine r_iast (hm := hm) (hf := rfl) (h28 := (by omega)) (hs := (by first | assumption | exact (g1.1 _).trans rfl)) (kk := to) (hi := by omega) (hn := (by omega)) (k := ?_)
  refine r_iconst hm rfl (k := ?_)
  refine r_istore_n hm rfl (k := ?_)
  suffices LP : ∀ (d k : Nat) (h1 : Hp), k + d = 20 → Sm (rgR to) h h1 → (∀ f, f < 5 → h1.2.1 (1088 + f) to = h.2.1 (1088 + f) fr) → (∀ g9 k2 : Nat, g9 < 3 → k2 < k → h1.2.1 (1093 + g9) (20 * to + k2) = h.2.1 (1093 + g9) (20 * fr + k2)) → RN 163 62 [some (.inr (.inr (some 1085))), some (.inl (fr : Int)), some (.inl (to : Int)), some (.inl (k : Int))] [] h1 0 0 (fun v h2 => Sm (rgR to) h h2 ∧ (∀ f, f < 5 → h2.2.1 (1088 + f) to = h.2.1 (1088 + f) fr) ∧ (∀ g9 k : Nat, g9 < 3 → k < 20 → h2.2.1 (1093 + g9) (20 * to + k) = h.2.1 (1093 + g9) (20 * fr + k)) ∧ v = none) from LP 20 0 _ (by omega) (Sm.put (Sm.put (Sm.put (Sm.put (Sm.put Sm.refl (by unfold rgR; omega)) (by unfold rgR; omega)) (by unfold rgR; omega)) (by unfold rgR; omega)) (by unfold rgR; omega)) (fun f hf => by
    have : f = 0 ∨ f = 1 ∨ f = 2 ∨ f = 3 ∨ f = 4 := by omega
    rcases this with rfl | rfl | rfl | rfl | rfl <;> simp (disch := omega) only [putI_fne, putI_feq, upf_ne, upf_eq]) (fun g9 k2 hg9 hk2 => by omega)
  clear g1
  refine fun d => Nat.strongRecOn d (fun d ih => ?_)
  intro k h1 hd S1 eF eP
  have g1 := S1.gg g
  refine r_iload_n hm rfl (k := ?_)
  refine r_bipush hm rfl (k := ?_)
  refine r_icmp_ge (t := 140) hm rfl rfl (fun c65 => ?_) (fun c65 => ?_)
  · refine r_return hm rfl rfl (Nat.le_of_ble_eq_true rfl) (Nat.le_of_ble_eq_true rfl) ?_
    have ek : k = 20 := by omega
    subst ek
    exact ⟨S1, eF, eP, rfl⟩
  · refine r_aload_n hm rfl (k := ?_)
    refine r_getR (hm := hm) (hf := rfl) (hd := rfl) (hs := (by first | assumption | exact (g1.1 _).trans rfl)) (hv := (by first | exact g1.2 _ _ _ rfl | exact rfl)) (k := ?_)
    refine r_bipush hm rfl (k := ?_)
    refine r_iload_n hm rfl (k := ?_)
    refine r_imul hm rfl (hr := (by omega)) (k := ?_)
    refine r_iload_n hm rfl (k := ?_)
    refine r_iadd hm rfl (hr := (by omega)) (k := ?_)
    refine r_aload_n hm rfl (k := ?_)
    refine r_getR (hm := hm) (hf := rfl) (hd := rfl) (hs := (by first | assumption | exact (g1.1 _).trans rfl)) (hv := (by first | exact g1.2 _ _ _ rfl | exact rfl)) (k := ?_)
    refine r_bipush hm rfl (k := ?_)
    refine r_iload_n hm rfl (k := ?_)
    refine r_imul hm rfl (hr := (by omega)) (k := ?_)
    refine r_iload_n hm rfl (k := ?_)
    refine r_iadd hm rfl (hr := (by omega)) (k := ?_)
    refine r_iald (hm := hm) (hf := rfl) (hs := (by first | assumption | exact (g1.1 _).trans rfl)) (kk := 20 * fr + k) (hi := by omega) (hn := (by omega)) (hv := (by first | exact g1.2 _ _ _ rfl | exact rfl)) (k := ?_)
    refine r_iast (hm := hm) (hf := rfl) (h28 := (by omega)) (hs := (by first | assumption | exact (g1.1 _).trans rfl)) (kk := 20 * to + k) (hi := by omega) (hn := (by omega)) (k := ?_)
    refine r_aload_n hm rfl (k := ?_)
    refine r_getR (hm := hm) (hf := rfl) (hd := rfl) (hs := (by first | assumption | exact (g1.1 _).trans rfl)) (hv := (by first | exact g1.2 _ _ _ rfl | exact rfl)) (k := ?_)
    refine r_bipush hm rfl (k := ?_)
    refine r_iload_n hm rfl (k := ?_)
    refine r_imul hm rfl (hr := (by omega)) (k := ?_)
    refine r_iload_n hm rfl (k := ?_)
    refine r_iadd hm rfl (hr := (by omega)) (k := ?_)
    refine r_aload_n hm rfl (k := ?_)
    refine r_getR (hm := hm) (hf := rfl) (hd := rfl) (hs := (by first | assumption | exact (g1.1 _).trans rfl)) (hv := (by first | exact g1.2 _ _ _ rfl | exact rfl)) (k := ?_)
    refine r_bipush hm rfl (k := ?_)
    refine r_iload_n hm rfl (k := ?_)
    refine r_imul hm rfl (hr := (by omega)) (k := ?_)
    refine r_iload_n hm rfl (k := ?_)
    refine r_iadd hm rfl (hr := (by omega)) (k := ?_)
    refine r_iald (hm := hm) (hf := rfl) (hs := (by first | assumption | exact (g1.1 _).trans rfl)) (kk := 20 * fr + k) (hi := by omega) (hn := (by omega)) (hv := (putI_ne (by omega))) (k := ?_)
    refine r_iast (hm := hm) (hf := rfl) (h28 := (by omega)) (hs := (by first | assumption | exact (g1.1 _).trans rfl)) (kk := 20 * to + k) (hi := by omega) (hn := (by omega)) (k := ?_)
    refine r_aload_n hm rfl (k := ?_)
    refine r_getR (hm := hm) (hf := rfl) (hd := rfl) (hs := (by first | assumption | exact (g1.1 _).trans rfl)) (hv := (by first | exact g1.2 _ _ _ rfl | exact rfl)) (k := ?_)
    refine r_bipush hm rfl (k := ?_)
    refine r_iload_n hm rfl (k := ?_)
    refine r_imul hm rfl (hr := (by omega)) (k := ?_)
    refine r_iload_n hm rfl (k := ?_)
    refine r_iadd hm rfl (hr := (by omega)) (k := ?_)
    refine r_aload_n hm rfl (k := ?_)
    refine r_getR (hm := hm) (hf := rfl) (hd := rfl) (hs := (by first | assumption | exact (g1.1 _).trans rfl)) (hv := (by first | exact g1.2 _ _ _ rfl | exact rfl)) (k := ?_)
    refine r_bipush hm rfl (k := ?_)
    refine r_iload_n hm rfl (k := ?_)
    refine r_imul hm rfl (hr := (by omega)) (k := ?_)
    refine r_iload_n hm rfl (k := ?_)
    refine r_iadd hm rfl (hr := (by omega)) (k := ?_)
    refine r_iald (hm := hm) (hf := rfl) (hs := (by first | assumption | exact (g1.1 _).trans rfl)) (kk := 20 * fr + k) (hi := by omega) (hn := (by omega)) (hv := ((putI_ne (by omega)).trans (putI_ne (by omega)))) (k := ?_)
    refine r_iast (hm := hm) (hf := rfl) (h28 := (by omega)) (hs := (by first | assumption | exact (g1.1 _).trans rfl)) (kk := 20 * to + k) (hi := by omega) (hn := (by omega)) (k := ?_)
    refine r_iinc hm rfl (hr := (by omega)) (k := ?_)
    refine r_goto (t := 62) hm rfl (k := ?_)
    refine ih (d - 1) (by omega) (k + 1) _ (by omega) (Sm.put (Sm.put (Sm.put S1 (by unfold rgR; omega)) (by unfold rgR; omega)) (by unfold rgR; omega)) (fun f hf => ?_) (fun g9 k2 hg9 hk2 => ?_)
    · simp (disch := omega) only [putI_fne, putI_feq, upf_ne, upf_eq]
      exact eF f hf
    · have hgg : g9 = 0 ∨ g9 = 1 ∨ g9 = 2 := by omega
      have e0 : ∀ g9, g9 < 3 → h1.2.1 (1093 + g9) (20 * fr + k) = h.2.1 (1093 + g9) (20 * fr + k) := fun g9 h9 => S1.2.2 _ _ (by unfold rgR; omega)
      by_cases ek : k2 = k
      · subst ek
        have e9 := e0 g9 hg9
        rcases hgg with rfl | rfl | rfl <;> simp (disch := omega) only [putI_fne, putI_feq, upf_ne, upf_eq] <;> exact e9
      · have e9 := eP g9 k2 hg9 (by omega)
        rcases hgg with rfl | rfl | rfl <;> simp (disch := omega) only [putI_fne, putI_feq, upf_ne, upf_eq] <;> exact e9
