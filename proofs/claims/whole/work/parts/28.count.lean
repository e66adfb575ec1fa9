/-! the numbers of all items: class -/
theorem c_sayOther {L : Nat} {h : Hp} {n t : Nat} {x : Tx} (g : GG L h) (hN : isN n) (ht : isT t) (hR : RepC h t x) (C : CN h) {i : Nat} (hi : i < x.1) (hu : 0 ≤ h.2.1 (n + 5) 0 ∧ h.2.1 (n + 5) 0 ≤ 100) (ho : 0 ≤ h.2.1 (n + 2) i ∧ h.2.1 (n + 2) i ≤ 9999) (hs : -1 ≤ h.2.1 (n + 1) i ∧ h.2.1 (n + 1) i < 60) : RN 45 0 [some (.inr (.inr (some (n)))), some (.inl (i : Int)), some (.inr (.inr (some (itm h t i)))), some (.inr (.inr (some (t + 2)))), none] [] h 0 0 (fun v h2 => h2 = h ∧ v = some (.inl (if x.2.1 1 i = 2 ∨ x.2.1 1 i = 3 then (if x.2.2.2 10 = 1 then sdn (h.2.1 (n + 5) 0).toNat (x.2.2.2 2) + 1 else 0) + fgs (h.2.1 (n + 2) i) else if h.2.1 (n + 1) i = -1 then 1 else h.2.1 (n + 3) (h.2.1 (n + 1) i).toNat))) := by
  obtain ⟨N0, N1, N2, N3, N4, N5, Q0, Q1, Q2, Q3, Q4, N28⟩ := g.nm hN
  obtain ⟨T1, T2, T3, T4, T5, T6, T7⟩ := g.tx ht
  obtain ⟨I0, I1, I2, I3, I4, J0, J1, J2, F0, F1, F2, F3, F4, P0, P1, P2⟩ := hR.use g ht
  obtain ⟨R1, R2, R3, R4, R5, R6, R7⟩ := id hR
  have hm : mrec 45 = some nM45 := rfl
  refine r_aload_n hm rfl (k := ?_)
  refine r_callv (j2 := 46) hm rfl rfl rfl rfl rfl rfl (by first | assumption | exact N5 | exact N4 | exact N3 | exact N2 | exact N1 | exact N0 | exact I1 _ (by omega)) (Nat.le_of_ble_eq_true rfl) (Nat.le_of_ble_eq_true rfl) rfl ⟨Nat.le_of_ble_eq_true rfl, Nat.le_of_ble_eq_true rfl, Nat.le_of_ble_eq_true rfl, Nat.le_of_ble_eq_true rfl, Nat.le_of_ble_eq_true rfl⟩ rfl (c_floats g ht hR hi) (fun v9 h9 p9 => ?_)
  obtain ⟨e1, e2⟩ := p9
  subst e2
  replace e1 := e1.symm
  subst e1
  change RN 45 4 _ _ _ 0 0 _
  dsimp only [Option.toList, List.cons_append, List.nil_append]
  refine r_if_eq (t := 49) hm rfl rfl (fun c4 => ?_) (fun c4 => ?_)
  · refine r_aload_n hm rfl (k := ?_)
    refine r_getR (hm := hm) (hf := rfl) (hd := rfl) (hs := (by first | assumption | exact N5 | exact N4 | exact N3 | exact N2 | exact N1 | exact N0 | exact I1 _ (by omega))) (hv := (by first | assumption | exact Q0 | exact Q1 | exact Q2 | exact Q3 | exact Q4 | exact I0 _ (by omega) | exact F1 _ (by omega) | exact F2 _ (by omega) | rfl)) (k := ?_)
    refine r_iload_n hm rfl (k := ?_)
    refine r_iald (hm := hm) (hf := rfl) (hs := (by first | assumption | exact N5 | exact N4 | exact N3 | exact N2 | exact N1 | exact N0 | exact I1 _ (by omega))) (kk := i) (hi := by omega) (hn := (by omega)) (hv := (by first | assumption | exact Q0 | exact Q1 | exact Q2 | exact Q3 | exact Q4 | exact I0 _ (by omega) | exact F1 _ (by omega) | exact F2 _ (by omega) | rfl)) (k := ?_)
    refine r_iconst hm rfl (k := ?_)
    refine r_icmp_ne (t := 63) hm rfl rfl (fun c56 => ?_) (fun c56 => ?_)
    · refine r_aload_n hm rfl (k := ?_)
      refine r_getR (hm := hm) (hf := rfl) (hd := rfl) (hs := (by first | assumption | exact N5 | exact N4 | exact N3 | exact N2 | exact N1 | exact N0 | exact I1 _ (by omega))) (hv := (by first | assumption | exact Q0 | exact Q1 | exact Q2 | exact Q3 | exact Q4 | exact I0 _ (by omega) | exact F1 _ (by omega) | exact F2 _ (by omega) | rfl)) (k := ?_)
      refine r_aload_n hm rfl (k := ?_)
      refine r_getR (hm := hm) (hf := rfl) (hd := rfl) (hs := (by first | assumption | exact N5 | exact N4 | exact N3 | exact N2 | exact N1 | exact N0 | exact I1 _ (by omega))) (hv := (by first | assumption | exact Q0 | exact Q1 | exact Q2 | exact Q3 | exact Q4 | exact I0 _ (by omega) | exact F1 _ (by omega) | exact F2 _ (by omega) | rfl)) (k := ?_)
      refine r_iload_n hm rfl (k := ?_)
      refine r_iald (hm := hm) (hf := rfl) (hs := (by first | assumption | exact N5 | exact N4 | exact N3 | exact N2 | exact N1 | exact N0 | exact I1 _ (by omega))) (kk := i) (hi := by omega) (hn := (by omega)) (hv := (by first | assumption | exact Q0 | exact Q1 | exact Q2 | exact Q3 | exact Q4 | exact I0 _ (by omega) | exact F1 _ (by omega) | exact F2 _ (by omega) | rfl)) (k := ?_)
      refine r_iald (hm := hm) (hf := rfl) (hs := (by first | assumption | exact N5 | exact N4 | exact N3 | exact N2 | exact N1 | exact N0 | exact I1 _ (by omega))) (kk := (h.2.1 (n + 1) i).toNat) (hi := by omega) (hn := (by omega)) (hv := (by first | assumption | exact Q0 | exact Q1 | exact Q2 | exact Q3 | exact Q4 | exact I0 _ (by omega) | exact F1 _ (by omega) | exact F2 _ (by omega) | rfl)) (k := ?_)
      refine r_ireturn hm rfl rfl (by rfl) (Nat.le_of_ble_eq_true rfl) (Nat.le_of_ble_eq_true rfl) ?_
      refine ⟨rfl, ?_⟩
      have k4 : (if x.2.1 1 i = 2 ∨ x.2.1 1 i = 3 then (1 : Int) else 0) = 0 ↔ ¬ (x.2.1 1 i = 2 ∨ x.2.1 1 i = 3) := by split <;> simp_all
      rw [k4] at c4
      first
        | (rw [if_pos (by omega), if_pos (by simpa using c11)]; done)
        | (rw [if_pos (by omega), if_neg (by simpa using c11)]; done)
        | (rw [if_neg (by omega), if_pos (by omega)]; done)
        | (rw [if_neg (by omega), if_neg (by omega)]; done)
    · refine r_iconst hm rfl (k := ?_)
      refine r_goto (t := 74) hm rfl (k := ?_)
      refine r_ireturn hm rfl rfl (by rfl) (Nat.le_of_ble_eq_true rfl) (Nat.le_of_ble_eq_true rfl) ?_
      refine ⟨rfl, ?_⟩
      have k4 : (if x.2.1 1 i = 2 ∨ x.2.1 1 i = 3 then (1 : Int) else 0) = 0 ↔ ¬ (x.2.1 1 i = 2 ∨ x.2.1 1 i = 3) := by split <;> simp_all
      rw [k4] at c4
      first
        | (rw [if_pos (by omega), if_pos (by simpa using c11)]; done)
        | (rw [if_pos (by omega), if_neg (by simpa using c11)]; done)
        | (rw [if_neg (by omega), if_pos (by omega)]; done)
        | (rw [if_neg (by omega), if_neg (by omega)]; done)
  · refine r_aload_n hm rfl (k := ?_)
    refine r_callv (j2 := 34) hm rfl rfl rfl rfl rfl rfl (by first | assumption | exact N5 | exact N4 | exact N3 | exact N2 | exact N1 | exact N0 | exact I1 _ (by omega)) (Nat.le_of_ble_eq_true rfl) (Nat.le_of_ble_eq_true rfl) rfl ⟨Nat.le_of_ble_eq_true rfl, Nat.le_of_ble_eq_true rfl, Nat.le_of_ble_eq_true rfl, Nat.le_of_ble_eq_true rfl, Nat.le_of_ble_eq_true rfl⟩ rfl (c_figuresAnew (s := t + 2) T3 T4 T7) (fun v9 h9 p9 => ?_)
    obtain ⟨e1, e2⟩ := p9
    subst e2
    replace e1 := e1.symm
    subst e1
    rw [R7 10 (by omega)]
    change RN 45 11 _ _ _ 0 0 _
    dsimp only [Option.toList, List.cons_append, List.nil_append]
    refine r_if_eq (t := 33) hm rfl rfl (fun c11 => ?_) (fun c11 => ?_)
    · refine r_iconst hm rfl (k := ?_)
      refine r_istore hm rfl (k := ?_)
      have hg9 := fgs_rng (h.2.1 (n + 2) i)
      refine r_iload hm rfl (k := ?_)
      refine r_aload_n hm rfl (k := ?_)
      refine r_getR (hm := hm) (hf := rfl) (hd := rfl) (hs := (by first | assumption | exact N5 | exact N4 | exact N3 | exact N2 | exact N1 | exact N0 | exact I1 _ (by omega))) (hv := (by first | assumption | exact Q0 | exact Q1 | exact Q2 | exact Q3 | exact Q4 | exact I0 _ (by omega) | exact F1 _ (by omega) | exact F2 _ (by omega) | rfl)) (k := ?_)
      refine r_iload_n hm rfl (k := ?_)
      refine r_iald (hm := hm) (hf := rfl) (hs := (by first | assumption | exact N5 | exact N4 | exact N3 | exact N2 | exact N1 | exact N0 | exact I1 _ (by omega))) (kk := i) (hi := by omega) (hn := (by omega)) (hv := (by first | assumption | exact Q0 | exact Q1 | exact Q2 | exact Q3 | exact Q4 | exact I0 _ (by omega) | exact F1 _ (by omega) | exact F2 _ (by omega) | rfl)) (k := ?_)
      refine r_calls (j2 := 43) hm rfl rfl rfl rfl rfl rfl (Nat.le_of_ble_eq_true rfl) (Nat.le_of_ble_eq_true rfl) rfl ⟨Nat.le_of_ble_eq_true rfl, Nat.le_of_ble_eq_true rfl, Nat.le_of_ble_eq_true rfl, Nat.le_of_ble_eq_true rfl, Nat.le_of_ble_eq_true rfl⟩ rfl (c_figures (by omega) (by omega)) (fun v9 h9 p9 => ?_)
      obtain ⟨e1, e2⟩ := p9
      subst e2
      replace e1 := e1.symm
      subst e1
      change RN 45 47 _ _ _ 0 0 _
      dsimp only [Option.toList, List.cons_append, List.nil_append]
      refine r_iadd hm rfl (hr := (by omega)) (k := ?_)
      refine r_ireturn hm rfl rfl (by rfl) (Nat.le_of_ble_eq_true rfl) (Nat.le_of_ble_eq_true rfl) ?_
      refine ⟨rfl, ?_⟩
      have k4 : (if x.2.1 1 i = 2 ∨ x.2.1 1 i = 3 then (1 : Int) else 0) = 0 ↔ ¬ (x.2.1 1 i = 2 ∨ x.2.1 1 i = 3) := by split <;> simp_all
      rw [k4] at c4
      first
        | (rw [if_pos (by omega), if_pos (by simpa using c11)]; done)
        | (rw [if_pos (by omega), if_neg (by simpa using c11)]; done)
        | (rw [if_neg (by omega), if_pos (by omega)]; done)
        | (rw [if_neg (by omega), if_neg (by omega)]; done)
    · have hs9 := @sdn_rng (h.2.1 (n + 5) 0).toNat (x.2.2.2 2) (by omega)
      refine r_aload_n hm rfl (k := ?_)
      refine r_getR (hm := hm) (hf := rfl) (hd := rfl) (hs := (by first | assumption | exact N5 | exact N4 | exact N3 | exact N2 | exact N1 | exact N0 | exact I1 _ (by omega))) (hv := (by first | assumption | exact Q0 | exact Q1 | exact Q2 | exact Q3 | exact Q4 | exact I0 _ (by omega) | exact F1 _ (by omega) | exact F2 _ (by omega) | rfl)) (k := ?_)
      refine r_iconst hm rfl (k := ?_)
      refine r_iald (hm := hm) (hf := rfl) (hs := (by first | assumption | exact N5 | exact N4 | exact N3 | exact N2 | exact N1 | exact N0 | exact I1 _ (by omega))) (kk := 0) (hi := by omega) (hn := (by omega)) (hv := (by first | assumption | exact Q0 | exact Q1 | exact Q2 | exact Q3 | exact Q4 | exact I0 _ (by omega) | exact F1 _ (by omega) | exact F2 _ (by omega) | rfl)) (k := ?_)
      refine r_aload_n hm rfl (k := ?_)
      refine r_iconst hm rfl (k := ?_)
      refine r_callv (j2 := 39) hm rfl rfl rfl rfl rfl rfl (by first | assumption | exact N5 | exact N4 | exact N3 | exact N2 | exact N1 | exact N0 | exact I1 _ (by omega)) (Nat.le_of_ble_eq_true rfl) (Nat.le_of_ble_eq_true rfl) rfl ⟨Nat.le_of_ble_eq_true rfl, Nat.le_of_ble_eq_true rfl, Nat.le_of_ble_eq_true rfl, Nat.le_of_ble_eq_true rfl, Nat.le_of_ble_eq_true rfl⟩ rfl (c_form (s := t + 2) (l := 1) (by omega) (by omega) T3 T4 T7) (fun v9 h9 p9 => ?_)
      obtain ⟨e1, e2⟩ := p9
      subst e2
      replace e1 := e1.symm
      subst e1
      rw [R7 2 (by omega)]
      change RN 45 25 _ _ _ 0 0 _
      dsimp only [Option.toList, List.cons_append, List.nil_append]
      refine r_calls (j2 := 40) hm rfl rfl rfl rfl rfl rfl (Nat.le_of_ble_eq_true rfl) (Nat.le_of_ble_eq_true rfl) rfl ⟨Nat.le_of_ble_eq_true rfl, Nat.le_of_ble_eq_true rfl, Nat.le_of_ble_eq_true rfl, Nat.le_of_ble_eq_true rfl, Nat.le_of_ble_eq_true rfl⟩ rfl (c_saidI g C (by omega) (by omega)) (fun v9 h9 p9 => ?_)
      obtain ⟨e1, e2⟩ := p9
      subst e2
      replace e1 := e1.symm
      subst e1
      change RN 45 28 _ _ _ 0 0 _
      dsimp only [Option.toList, List.cons_append, List.nil_append]
      refine r_iconst hm rfl (k := ?_)
      refine r_iadd hm rfl (hr := (by omega)) (k := ?_)
      refine r_goto (t := 34) hm rfl (k := ?_)
      refine r_istore hm rfl (k := ?_)
      have hg9 := fgs_rng (h.2.1 (n + 2) i)
      refine r_iload hm rfl (k := ?_)
      refine r_aload_n hm rfl (k := ?_)
      refine r_getR (hm := hm) (hf := rfl) (hd := rfl) (hs := (by first | assumption | exact N5 | exact N4 | exact N3 | exact N2 | exact N1 | exact N0 | exact I1 _ (by omega))) (hv := (by first | assumption | exact Q0 | exact Q1 | exact Q2 | exact Q3 | exact Q4 | exact I0 _ (by omega) | exact F1 _ (by omega) | exact F2 _ (by omega) | rfl)) (k := ?_)
      refine r_iload_n hm rfl (k := ?_)
      refine r_iald (hm := hm) (hf := rfl) (hs := (by first | assumption | exact N5 | exact N4 | exact N3 | exact N2 | exact N1 | exact N0 | exact I1 _ (by omega))) (kk := i) (hi := by omega) (hn := (by omega)) (hv := (by first | assumption | exact Q0 | exact Q1 | exact Q2 | exact Q3 | exact Q4 | exact I0 _ (by omega) | exact F1 _ (by omega) | exact F2 _ (by omega) | rfl)) (k := ?_)
      refine r_calls (j2 := 43) hm rfl rfl rfl rfl rfl rfl (Nat.le_of_ble_eq_true rfl) (Nat.le_of_ble_eq_true rfl) rfl ⟨Nat.le_of_ble_eq_true rfl, Nat.le_of_ble_eq_true rfl, Nat.le_of_ble_eq_true rfl, Nat.le_of_ble_eq_true rfl, Nat.le_of_ble_eq_true rfl⟩ rfl (c_figures (by omega) (by omega)) (fun v9 h9 p9 => ?_)
      obtain ⟨e1, e2⟩ := p9
      subst e2
      replace e1 := e1.symm
      subst e1
      change RN 45 47 _ _ _ 0 0 _
      dsimp only [Option.toList, List.cons_append, List.nil_append]
      refine r_iadd hm rfl (hr := (by omega)) (k := ?_)
      refine r_ireturn hm rfl rfl (by rfl) (Nat.le_of_ble_eq_true rfl) (Nat.le_of_ble_eq_true rfl) ?_
      refine ⟨rfl, ?_⟩
      have k4 : (if x.2.1 1 i = 2 ∨ x.2.1 1 i = 3 then (1 : Int) else 0) = 0 ↔ ¬ (x.2.1 1 i = 2 ∨ x.2.1 1 i = 3) := by split <;> simp_all
      rw [k4] at c4
      first
        | (rw [if_pos (by omega), if_pos (by simpa using c11)]; done)
        | (rw [if_pos (by omega), if_neg (by simpa using c11)]; done)
        | (rw [if_neg (by omega), if_pos (by omega)]; done)
        | (rw [if_neg (by omega), if_neg (by omega)]; done)
theorem c_countOf {L : Nat} {h : Hp} {n : Nat} (g : GG L h) (hN : isN n) {i k : Nat} (hi : i < 60) (h1 : 1 ≤ k) (h4 : k ≤ 4) : RN 48 0 [some (.inr (.inr (some (n)))), some (.inl (i : Int)), some (.inl (k : Int))] [] h 0 0 (fun v h2 => h2 = h ∧ v = some (.inl (h.2.1 (n + 4) (4 * i + (k - 1))))) := by
  obtain ⟨N0, N1, N2, N3, N4, N5, Q0, Q1, Q2, Q3, Q4, N28⟩ := g.nm hN
  have hm : mrec 48 = some nM48 := rfl
  refine r_aload_n hm rfl (k := ?_)
  refine r_getR (hm := hm) (hf := rfl) (hd := rfl) (hs := (by first | assumption | exact N5 | exact N4 | exact N3 | exact N2 | exact N1 | exact N0 | exact I1 _ (by omega))) (hv := (by first | assumption | exact Q0 | exact Q1 | exact Q2 | exact Q3 | exact Q4 | exact I0 _ (by omega) | exact F1 _ (by omega) | exact F2 _ (by omega) | rfl)) (k := ?_)
  refine r_iload_n hm rfl (k := ?_)
  refine r_iconst hm rfl (k := ?_)
  refine r_imul hm rfl (hr := (by omega)) (k := ?_)
  refine r_iload_n hm rfl (k := ?_)
  refine r_iadd hm rfl (hr := (by omega)) (k := ?_)
  refine r_iconst hm rfl (k := ?_)
  refine r_isub hm rfl (hr := (by omega)) (k := ?_)
  refine r_iald (hm := hm) (hf := rfl) (hs := (by first | assumption | exact N5 | exact N4 | exact N3 | exact N2 | exact N1 | exact N0 | exact I1 _ (by omega))) (kk := 4 * i + (k - 1)) (hi := by omega) (hn := (by omega)) (hv := (by first | assumption | exact Q0 | exact Q1 | exact Q2 | exact Q3 | exact Q4 | exact I0 _ (by omega) | exact F1 _ (by omega) | exact F2 _ (by omega) | rfl)) (k := ?_)
  refine r_ireturn hm rfl rfl (by rfl) (Nat.le_of_ble_eq_true rfl) (Nat.le_of_ble_eq_true rfl) ?_
  exact ⟨rfl, rfl⟩
theorem c_ownCount2 {L : Nat} {h : Hp} {n t : Nat} {x : Tx} {f b : Int} (g : GG L h) (hN : isN n) (ht : isT t) (hR : RepC h t x) {i : Nat} (hi : i < x.1) (hok : okIt x i) (ef : h.2.1 n 5 = f) (eb : h.2.1 n 6 = b) (hf : (0 ≤ f ∧ f ≤ 100) ∧ (0 ≤ b ∧ b ≤ 100)) : RN 36 0 [some (.inr (.inr (some n))), some (.inr (.inr (some (itm h t i))))] [] h 0 0 (fun v h2 => Sm (fun a k => a = n ∧ 5 ≤ k) h h2 ∧ h2.2.1 n 5 = (if x.2.1 1 i = 2 then f + 1 else f) ∧ h2.2.1 n 6 = (if x.2.1 1 i = 3 then b + 1 else b) ∧ v = some (.inl (if x.2.1 1 i = 0 then h.2.1 (n + 5) (x.2.1 2 i - 1).toNat else if x.2.1 1 i = 2 then f + 1 else if x.2.1 1 i = 3 then b + 1 else 0))) := by
  subst ef
  subst eb
  refine RN.imp (c_ownCount g hN ht hR hi hok hf) (fun v h2 p => ?_)
  obtain ⟨e1, e2⟩ := p
  subst e1
  refine ⟨?_, ?_, ?_, e2⟩
  · split
    · exact Sm.put Sm.refl (by omega)
    · split
      · exact Sm.put Sm.refl (by omega)
      · exact Sm.refl
  · split
    · exact putI_eq
    · split
      · exact putI_ne (by omega)
      · rfl
  · split
    · rw [if_neg (by omega)]; exact putI_ne (by omega)
    · split
      · exact putI_eq
      · rfl
/-- places below i hold their numbers -/
def NmR (h : Hp) (n : Nat) (x : Tx) (i : Nat) : Prop := ∀ q, q < i → h.2.1 (n + 1) q = nSec x q ∧ h.2.1 (n + 2) q = nOwn x q ∧ h.2.1 (n + 3) q = nSaid x q ∧ ∀ k, k < 4 → h.2.1 (n + 4) (4 * q + k) = nRow x q k
def NmI (h h1 : Hp) (n : Nat) (x : Tx) (i : Nat) : Prop := Sm (regN n) h h1 ∧ (∀ q, q < 4 → h1.2.1 (n + 5) q = (nsN x i).1 q) ∧ h1.2.1 n 5 = (nsN x i).2.1 ∧ h1.2.1 n 6 = (nsN x i).2.2.1 ∧ NmR h1 n x i
theorem regN_T {n t : Nat} (hN : isN n) (ht : isT t) : ∀ a k, regN n a k → a < t ∨ t + 244 ≤ a := by
  intro a k q
  unfold regN at q
  rcases hN with rfl | rfl | rfl <;> rcases ht with rfl | rfl | rfl | rfl <;> omega
theorem regN_28 {n : Nat} (hN : isN n) : ∀ a k, regN n a k → 28 ≤ a := by
  intro a k q
  unfold regN at q
  rcases hN with rfl | rfl | rfl <;> omega
theorem nsS_0 {x : Tx} {i : Nat} (hk : x.2.1 1 i = 0) (q : Nat) : (nsN x (i + 1)).1 q = (if (q : Int) = x.2.1 2 i - 1 then (nsN x i).1 q + 1 else if (q : Int) < x.2.1 2 i - 1 then (nsN x i).1 q else 0) ∧ (nsN x (i + 1)).2.1 = (if x.2.1 2 i = 1 ∧ x.2.2.2 10 = 1 then 0 else (nsN x i).2.1) ∧ (nsN x (i + 1)).2.2.1 = (if x.2.1 2 i = 1 ∧ x.2.2.2 10 = 1 then 0 else (nsN x i).2.2.1) ∧ (nsN x (i + 1)).2.2.2 = (i : Int) := by
  have e : nsN x (i + 1) = nsS x i (nsN x i) := rfl
  rw [e]
  unfold nsS
  rw [if_pos hk]
  exact ⟨rfl, rfl, rfl, rfl⟩
theorem nsS_1 {x : Tx} {i : Nat} (hk : x.2.1 1 i ≠ 0) : (nsN x (i + 1)).1 = (nsN x i).1 ∧ (nsN x (i + 1)).2.1 = (if x.2.1 1 i = 2 then (nsN x i).2.1 + 1 else (nsN x i).2.1) ∧ (nsN x (i + 1)).2.2.1 = (if x.2.1 1 i = 3 then (nsN x i).2.2.1 + 1 else (nsN x i).2.2.1) ∧ (nsN x (i + 1)).2.2.2 = (nsN x i).2.2.2 := by
  have e : nsN x (i + 1) = nsS x i (nsN x i) := rfl
  rw [e]
  unfold nsS
  rw [if_neg hk]
  split
  · rename_i h2
    rw [if_neg (by omega)]
    exact ⟨rfl, rfl, rfl, rfl⟩
  · split <;> exact ⟨rfl, rfl, rfl, rfl⟩
/-- a heading's section is itself; what stands under no heading says 1 -/
theorem nSec_lt {x : Tx} (hok : okTx x) {i : Nat} (hi : i < x.1) : -1 ≤ nSec x i ∧ nSec x i ≤ i ∧ (x.2.1 1 i = 0 → nSec x i = i) ∧ (x.2.1 1 i ≠ 0 → nSec x i < i) ∧ (nSec x i ≠ -1 → x.2.1 1 (nSec x i).toNat = 0) := by
  obtain ⟨h1, h2, h3, h4, h5⟩ := nsN_ok hok (i + 1) (by omega)
  obtain ⟨-, -, -, h6, -⟩ := nsN_ok hok i (by omega)
  unfold nSec
  refine ⟨by omega, by omega, fun k => (nsS_0 k 0).2.2.2, fun k => by rw [(nsS_1 k).2.2.2]; omega, fun k => by rcases h5 with h5 | h5; exact absurd h5 k; exact h5.2⟩
theorem sm_congr {f f2 : Nat → Int} : ∀ (d i : Nat), (∀ k, i ≤ k → k < i + d → f k = f2 k) → sm f i d = sm f2 i d := by
  intro d
  induction d with
  | zero => intro i _; rfl
  | succ d ih =>
    intro i hf
    unfold sm
    rw [hf i (by omega) (by omega), ih (i + 1) (fun k hk hk2 => hf k (by omega) (by omega))]
theorem nHd_congr {u v s : Nat → Int} {l : Nat} (h1 : 1 ≤ l) (h4 : l ≤ 4) (e : ∀ q, q < 4 → u q = v q) : nHd u s l = nHd v s l := by
  unfold nHd
  rw [e (l - 1) (by omega), sm_congr (l - 1) 1 (fun k hk hk2 => by rw [e (k - 1) (by omega)])]
theorem c_countAll_b {L : Nat} {h : Hp} {n t : Nat} {x : Tx} (g : GG L h) (hN : isN n) (ht : isT t) (hR : RepC h t x) (C : CN h) (hok : okTx x) {i : Nat} (hi : i < x.1) {P : Option Vl → Hp → Prop} (h1 : Hp) (S1 : Sm (regN n) h h1) (e4 : ∀ q, q < 4 → h1.2.1 (n + 5) q = (nsN x (i + 1)).1 q) (e5 : h1.2.1 n 5 = (if x.2.1 1 i = 0 then (nsN x (i + 1)).2.1 else (nsN x i).2.1)) (e6 : h1.2.1 n 6 = (if x.2.1 1 i = 0 then (nsN x (i + 1)).2.2.1 else (nsN x i).2.2.1)) (e7 : NmR h1 n x i) (K : ∀ h3, NmI h h3 n x (i + 1) → RN 33 22 [some (.inr (.inr (some (n)))), some (.inr (.inr (some (t)))), some (.inl (nsN x (i + 1)).2.2.2), some (.inl ((i : Int) + 1)), some (.inr (.inr (some (itm h t i))))] [] h3 0 0 P) : RN 33 64 [some (.inr (.inr (some (n)))), some (.inr (.inr (some (t)))), some (.inl (nsN x (i + 1)).2.2.2), some (.inl (i : Int)), some (.inr (.inr (some (itm h t i))))] [] h1 0 0 P := by
  obtain ⟨N0, N1, N2, N3, N4, N5, Q0, Q1, Q2, Q3, Q4, N28⟩ := (S1.gg g).nm hN
  obtain ⟨T1, T2, T3, T4, T5, T6, T7⟩ := (S1.gg g).tx ht
  have hR1 := S1.repC (regN_T hN ht) hR
  obtain ⟨I0, I1, I2, I3, I4, J0, J1, J2, F0, F1, F2, F3, F4, P0, P1, P2⟩ := hR1.use (S1.gg g) ht
  obtain ⟨R1, R2, R3, R4, R5, R6, R7⟩ := id hR1
  have hm : mrec 33 = some nM33 := rfl
  have hit := hok.2.1 i hi
  have n60 := hok.1
  obtain ⟨u1, u2, u3, u4, u5⟩ := nsN_ok hok (i + 1) (by omega)
  obtain ⟨-, v2, v3, v4, -⟩ := nsN_ok hok i (by omega)
  have hlv := hit.2.2.2.2.1
  have hH : -1 ≤ (nsN x (i + 1)).2.2.2 ∧ (nsN x (i + 1)).2.2.2 < x.1 := by omega
  simp only [S1.itm] at I0 I1 F1 F2
  refine r_aload_n hm rfl (k := ?_)
  refine r_getR (hm := hm) (hf := rfl) (hd := rfl) (hs := (by first | assumption | exact N5 | exact N4 | exact N3 | exact N2 | exact N1 | exact N0 | exact I1 _ (by omega))) (hv := (by first | assumption | exact Q0 | exact Q1 | exact Q2 | exact Q3 | exact Q4 | exact I0 _ (by omega) | exact F1 _ (by omega) | exact F2 _ (by omega) | rfl)) (k := ?_)
  refine r_iload_n hm rfl (k := ?_)
  refine r_iload_n hm rfl (k := ?_)
  refine r_iast (hm := hm) (hf := rfl) (h28 := (by omega)) (hs := (by first | assumption | exact N5 | exact N4 | exact N3 | exact N2 | exact N1 | exact N0 | exact I1 _ (by omega))) (hi := rfl) (hn := (by omega)) (k := ?_)
  refine r_aload_n hm rfl (k := ?_)
  refine r_getR (hm := hm) (hf := rfl) (hd := rfl) (hs := (by first | assumption | exact N5 | exact N4 | exact N3 | exact N2 | exact N1 | exact N0 | exact I1 _ (by omega))) (hv := (by first | assumption | exact Q0 | exact Q1 | exact Q2 | exact Q3 | exact Q4 | exact I0 _ (by omega) | exact F1 _ (by omega) | exact F2 _ (by omega) | rfl)) (k := ?_)
  refine r_iload_n hm rfl (k := ?_)
  refine r_aload_n hm rfl (k := ?_)
  refine r_aload hm rfl (k := ?_)
  have SA := Sm.put (v := (nsN x (i + 1)).2.2.2) S1 (show regN n (n + 1) i by unfold regN; omega)
  have qA := c_ownCount2 (f := (if x.2.1 1 i = 0 then (nsN x (i + 1)).2.1 else (nsN x i).2.1)) (b := (if x.2.1 1 i = 0 then (nsN x (i + 1)).2.2.1 else (nsN x i).2.2.1)) (SA.gg g) hN ht (SA.repC (regN_T hN ht) hR) hi (hok.2.1 i hi) (by rw [putI_ne (by omega)]; exact e5) (by rw [putI_ne (by omega)]; exact e6) ⟨by split <;> omega, by split <;> omega⟩
  rw [SA.itm] at qA
  refine r_callv (j2 := 36) hm rfl rfl rfl rfl rfl rfl (by first | assumption | exact N5 | exact N4 | exact N3 | exact N2 | exact N1 | exact N0 | exact I1 _ (by omega)) (Nat.le_of_ble_eq_true rfl) (Nat.le_of_ble_eq_true rfl) rfl ⟨Nat.le_of_ble_eq_true rfl, Nat.le_of_ble_eq_true rfl, Nat.le_of_ble_eq_true rfl, Nat.le_of_ble_eq_true rfl, Nat.le_of_ble_eq_true rfl⟩ rfl (qA) (fun v9 hB p9 => ?_)
  obtain ⟨SB, f3, b3, e1⟩ := p9
  subst e1
  have eo : (if x.2.1 1 i = 0 then (putI h1 (n + 1) i (nsN x (i + 1)).2.2.2).2.1 (n + 5) (x.2.1 2 i - 1).toNat else if x.2.1 1 i = 2 then (if x.2.1 1 i = 0 then (nsN x (i + 1)).2.1 else (nsN x i).2.1) + 1 else if x.2.1 1 i = 3 then (if x.2.1 1 i = 0 then (nsN x (i + 1)).2.2.1 else (nsN x i).2.2.1) + 1 else 0) = nOwn x i := by
    unfold nOwn
    by_cases k0 : x.2.1 1 i = 0
    · rw [if_pos k0, if_pos k0, putI_ne (by omega), e4 _ (by omega)]
    · obtain ⟨-, k1, k2, -⟩ := nsS_1 k0
      rw [if_neg k0, if_neg k0, if_neg k0, if_neg k0, k1, k2]
      split
      · rfl
      · split <;> rfl
  rw [eo]
  have SC : Sm (regN n) h (putI hB (n + 2) i (nOwn x i)) := Sm.put (SA.trans (SB.mono (fun a k q => by unfold regN; omega))) (by unfold regN; omega)
  obtain ⟨N0, N1, N2, N3, N4, N5, Q0, Q1, Q2, Q3, Q4, N28⟩ := (SC.gg g).nm hN
  obtain ⟨T1, T2, T3, T4, T5, T6, T7⟩ := (SC.gg g).tx ht
  have hR1 := SC.repC (regN_T hN ht) hR
  obtain ⟨I0, I1, I2, I3, I4, J0, J1, J2, F0, F1, F2, F3, F4, P0, P1, P2⟩ := hR1.use (SC.gg g) ht
  obtain ⟨R1, R2, R3, R4, R5, R6, R7⟩ := id hR1
  simp only [SC.itm] at I0 I1 F1 F2
  change RN 33 82 _ _ _ 0 0 _
  dsimp only [Option.toList, List.cons_append, List.nil_append]
  refine r_iast (hm := hm) (hf := rfl) (h28 := (by omega)) (hs := (by first | assumption | exact N5 | exact N4 | exact N3 | exact N2 | exact N1 | exact N0 | exact I1 _ (by omega))) (hi := rfl) (hn := (by omega)) (k := ?_)
  refine r_aload_n hm rfl (k := ?_)
  refine r_iload_n hm rfl (k := ?_)
  refine r_iload_n hm rfl (k := ?_)
  refine r_iconst hm rfl (k := ?_)
  refine r_icmp_ne (t := 94) hm rfl rfl (fun c87 => ?_) (fun c87 => ?_)
  · refine r_aload_n hm rfl (k := ?_)
    refine r_getR (hm := hm) (hf := rfl) (hd := rfl) (hs := (by first | assumption | exact N5 | exact N4 | exact N3 | exact N2 | exact N1 | exact N0 | exact I1 _ (by omega))) (hv := (by first | assumption | exact Q0 | exact Q1 | exact Q2 | exact Q3 | exact Q4 | exact I0 _ (by omega) | exact F1 _ (by omega) | exact F2 _ (by omega) | rfl)) (k := ?_)
    refine r_iload_n hm rfl (k := ?_)
    refine r_aald (hm := hm) (hf := rfl) (hs := (by first | assumption | exact N5 | exact N4 | exact N3 | exact N2 | exact N1 | exact N0 | exact I1 _ (by omega))) (hkd := by decide) (kk := ((nsN x (i + 1)).2.2.2).toNat) (hi := by omega) (hn := (by omega)) (hv := (by first | assumption | exact Q0 | exact Q1 | exact Q2 | exact Q3 | exact Q4 | exact I0 _ (by omega) | exact F1 _ (by omega) | exact F2 _ (by omega) | rfl)) (k := ?_)
    refine r_getI (hm := hm) (hf := rfl) (hd := rfl) (hs := (by first | assumption | exact N5 | exact N4 | exact N3 | exact N2 | exact N1 | exact N0 | exact I1 _ (by omega))) (hv := (by first | assumption | exact Q0 | exact Q1 | exact Q2 | exact Q3 | exact Q4 | exact I0 _ (by omega) | exact F1 _ (by omega) | exact F2 _ (by omega) | rfl)) (k := ?_)
    refine r_callv (j2 := 37) hm rfl rfl rfl rfl rfl rfl (by first | assumption | exact N5 | exact N4 | exact N3 | exact N2 | exact N1 | exact N0 | exact I1 _ (by omega)) (Nat.le_of_ble_eq_true rfl) (Nat.le_of_ble_eq_true rfl) rfl ⟨Nat.le_of_ble_eq_true rfl, Nat.le_of_ble_eq_true rfl, Nat.le_of_ble_eq_true rfl, Nat.le_of_ble_eq_true rfl, Nat.le_of_ble_eq_true rfl⟩ rfl (c_writeRow (SC.gg g) hN (by omega)) (fun v9 hD p9 => ?_)
    obtain ⟨SD, cD, e1⟩ := p9
    subst e1
    have SE : Sm (regN n) h hD := SC.trans (SD.mono (fun a k q => by unfold regN; omega))
    have eS : hD.2.1 (n + 1) i = (nsN x (i + 1)).2.2.2 := by rw [SD.2.2 _ _ (by omega), putI_ne (by omega), SB.2.2 _ _ (by omega), putI_eq]
    have eO : hD.2.1 (n + 2) i = nOwn x i := by rw [SD.2.2 _ _ (by omega), putI_eq]
    have eF : hD.2.1 n 5 = (nsN x (i + 1)).2.1 := by
      rw [SD.2.2 _ _ (by omega), putI_ne (by omega), f3]
      by_cases k0 : x.2.1 1 i = 0
      · rw [if_neg (by omega), if_pos k0]
      · rw [if_neg k0, (nsS_1 k0).2.1]
    have eB : hD.2.1 n 6 = (nsN x (i + 1)).2.2.1 := by
      rw [SD.2.2 _ _ (by omega), putI_ne (by omega), b3]
      by_cases k0 : x.2.1 1 i = 0
      · rw [if_neg (by omega), if_pos k0]
      · rw [if_neg k0, (nsS_1 k0).2.2.1]
    have eU : ∀ q, q < 4 → hD.2.1 (n + 5) q = (nsN x (i + 1)).1 q := fun q hq => by rw [SD.2.2 _ _ (by omega), putI_ne (by omega), SB.2.2 _ _ (by omega), putI_ne (by omega), e4 q hq]
    have eR : ∀ q, q < 4 → hD.2.1 (n + 4) (4 * i + q) = nRow x i q := fun q hq => by
      rw [cD q hq]
      unfold nRow nLen nSec
      first
        | rw [if_pos (show (nsN x (i + 1)).2.2.2 = -1 by omega), putI_ne (by omega), SB.2.2 _ _ (by omega), putI_ne (by omega), e4 q hq]
        | rw [if_neg (show ¬ (nsN x (i + 1)).2.2.2 = -1 by omega), putI_ne (by omega), SB.2.2 _ _ (by omega), putI_ne (by omega), e4 q hq]
    have eW : ∀ a q, a ≠ n → (a = n + 4 → q < 4 * i) → a ≠ n + 5 → (a ≠ n + 4 → q < i) → hD.2.1 a q = h1.2.1 a q := fun a q w1 w2 w3 w4 => by
      rw [SD.2.2 _ _ (by omega), putI_ne (by omega), SB.2.2 _ _ (by omega), putI_ne (by omega)]
    have eM : NmR hD n x i := fun q hq => by
      obtain ⟨m1, m2, m3, m4⟩ := e7 q hq
      refine ⟨?_, ?_, ?_, fun k hk => ?_⟩
      · rw [eW _ _ (by omega) (by omega) (by omega) (by omega)]; exact m1
      · rw [eW _ _ (by omega) (by omega) (by omega) (by omega)]; exact m2
      · rw [eW _ _ (by omega) (by omega) (by omega) (by omega)]; exact m3
      · rw [eW _ _ (by omega) (by omega) (by omega) (by omega)]; exact m4 k hk
    obtain ⟨N0, N1, N2, N3, N4, N5, Q0, Q1, Q2, Q3, Q4, N28⟩ := (SE.gg g).nm hN
    obtain ⟨T1, T2, T3, T4, T5, T6, T7⟩ := (SE.gg g).tx ht
    have hR1 := SE.repC (regN_T hN ht) hR
    obtain ⟨I0, I1, I2, I3, I4, J0, J1, J2, F0, F1, F2, F3, F4, P0, P1, P2⟩ := hR1.use (SE.gg g) ht
    obtain ⟨R1, R2, R3, R4, R5, R6, R7⟩ := id hR1
    simp only [SE.itm] at I0 I1 F1 F2
    have CE := SE.cn (regN_28 hN) C
    change RN 33 106 _ _ _ 0 0 _
    dsimp only [Option.toList, List.nil_append]
    refine r_aload_n hm rfl (k := ?_)
    refine r_getR (hm := hm) (hf := rfl) (hd := rfl) (hs := (by first | assumption | exact N5 | exact N4 | exact N3 | exact N2 | exact N1 | exact N0 | exact I1 _ (by omega))) (hv := (by first | assumption | exact Q0 | exact Q1 | exact Q2 | exact Q3 | exact Q4 | exact I0 _ (by omega) | exact F1 _ (by omega) | exact F2 _ (by omega) | rfl)) (k := ?_)
    refine r_iload_n hm rfl (k := ?_)
    refine r_aload hm rfl (k := ?_)
    refine r_getI (hm := hm) (hf := rfl) (hd := rfl) (hs := (by first | assumption | exact N5 | exact N4 | exact N3 | exact N2 | exact N1 | exact N0 | exact I1 _ (by omega))) (hv := (by first | assumption | exact Q0 | exact Q1 | exact Q2 | exact Q3 | exact Q4 | exact I0 _ (by omega) | exact F1 _ (by omega) | exact F2 _ (by omega) | rfl)) (k := ?_)
    refine r_if_ne (t := 135) hm rfl rfl (fun c116 => ?_) (fun c116 => ?_)
    · refine r_aload_n hm rfl (k := ?_)
      refine r_iload_n hm rfl (k := ?_)
      refine r_aload hm rfl (k := ?_)
      refine r_aload_n hm rfl (k := ?_)
      refine r_getR (hm := hm) (hf := rfl) (hd := rfl) (hs := (by first | assumption | exact N5 | exact N4 | exact N3 | exact N2 | exact N1 | exact N0 | exact I1 _ (by omega))) (hv := (by first | assumption | exact Q0 | exact Q1 | exact Q2 | exact Q3 | exact Q4 | exact I0 _ (by omega) | exact F1 _ (by omega) | exact F2 _ (by omega) | rfl)) (k := ?_)
      have hown : 0 ≤ nOwn x i ∧ nOwn x i ≤ 100 := by
        unfold nOwn
        have := u1 (x.2.1 2 i - 1).toNat
        split
        · omega
        · split
          · omega
          · split <;> omega
      have qX := c_sayOther (SE.gg g) hN ht hR1 CE hi (by rw [eU 0 (by omega)]; have := u1 0; omega) (by rw [eO]; omega) (by rw [eS]; omega)
      rw [SE.itm, eO, eS, eU 0 (by omega)] at qX
      have eV : (if x.2.1 1 i = 2 ∨ x.2.1 1 i = 3 then (if x.2.2.2 10 = 1 then sdn ((nsN x (i + 1)).1 0).toNat (x.2.2.2 2) + 1 else 0) + fgs (nOwn x i) else if (nsN x (i + 1)).2.2.2 = -1 then 1 else hD.2.1 (n + 3) ((nsN x (i + 1)).2.2.2).toNat) = nSaid x i := by
        unfold nSaid
        rw [if_neg c116]
        by_cases k1 : x.2.1 1 i = 2 ∨ x.2.1 1 i = 3
        · rw [if_pos k1, if_pos k1]
        · rw [if_neg k1, if_neg k1]
          unfold nSec
          by_cases k2 : (nsN x (i + 1)).2.2.2 = -1
          · rw [if_pos k2, if_pos k2]
          · rw [if_neg k2, if_neg k2]
            have k3 := (nsS_1 c116).2.2.2
            have k4 : ((nsN x (i + 1)).2.2.2).toNat < i := by omega
            rw [(eM _ k4).2.2.1]
            unfold nSaid
            have k5 : x.2.1 1 ((nsN x (i + 1)).2.2.2).toNat = 0 := by rcases u5 with u5 | u5; exact absurd u5 k2; exact u5.2
            rw [if_pos k5]
      refine r_callv (j2 := 45) hm rfl rfl rfl rfl rfl rfl (by first | assumption | exact N5 | exact N4 | exact N3 | exact N2 | exact N1 | exact N0 | exact I1 _ (by omega)) (Nat.le_of_ble_eq_true rfl) (Nat.le_of_ble_eq_true rfl) rfl ⟨Nat.le_of_ble_eq_true rfl, Nat.le_of_ble_eq_true rfl, Nat.le_of_ble_eq_true rfl, Nat.le_of_ble_eq_true rfl, Nat.le_of_ble_eq_true rfl⟩ rfl (qX) (fun v9 h9 p9 => ?_)
      obtain ⟨e1, e2⟩ := p9
      subst e2
      replace e1 := e1.symm
      subst e1
      change RN 33 146 _ _ _ 0 0 _
      dsimp only [Option.toList, List.cons_append, List.nil_append]
      refine r_iast (hm := hm) (hf := rfl) (h28 := (by omega)) (hs := (by first | assumption | exact N5 | exact N4 | exact N3 | exact N2 | exact N1 | exact N0 | exact I1 _ (by omega))) (hi := rfl) (hn := (by omega)) (k := ?_)
      refine r_iinc hm rfl (hr := (by omega)) (k := ?_)
      refine r_goto (t := 22) hm rfl (k := ?_)
      refine K _ ⟨Sm.put SE (by unfold regN; omega), fun q hq => by rw [putI_ne (by omega)]; exact eU q hq, by rw [putI_ne (by omega)]; exact eF, by rw [putI_ne (by omega)]; exact eB, fun q hq => ?_⟩
      by_cases hq2 : q = i
      · subst hq2
        refine ⟨?_, ?_, ?_, fun k hk => ?_⟩
        · rw [putI_ne (by omega)]; exact eS
        · rw [putI_ne (by omega)]; exact eO
        · rw [putI_eq]
          exact eV
        · rw [putI_ne (by omega)]; exact eR k hk
      · obtain ⟨m1, m2, m3, m4⟩ := eM q (by omega)
        refine ⟨?_, ?_, ?_, fun k hk => ?_⟩
        · rw [putI_ne (by omega)]; exact m1
        · rw [putI_ne (by omega)]; exact m2
        · rw [putI_ne (by omega)]; exact m3
        · rw [putI_ne (by omega)]; exact m4 k hk
    · refine r_aload_n hm rfl (k := ?_)
      refine r_aload hm rfl (k := ?_)
      refine r_getI (hm := hm) (hf := rfl) (hd := rfl) (hs := (by first | assumption | exact N5 | exact N4 | exact N3 | exact N2 | exact N1 | exact N0 | exact I1 _ (by omega))) (hv := (by first | assumption | exact Q0 | exact Q1 | exact Q2 | exact Q3 | exact Q4 | exact I0 _ (by omega) | exact F1 _ (by omega) | exact F2 _ (by omega) | rfl)) (k := ?_)
      refine r_aload_n hm rfl (k := ?_)
      refine r_getR (hm := hm) (hf := rfl) (hd := rfl) (hs := (by first | assumption | exact N5 | exact N4 | exact N3 | exact N2 | exact N1 | exact N0 | exact I1 _ (by omega))) (hv := (by first | assumption | exact Q0 | exact Q1 | exact Q2 | exact Q3 | exact Q4 | exact I0 _ (by omega) | exact F1 _ (by omega) | exact F2 _ (by omega) | rfl)) (k := ?_)
      replace c116 : x.2.1 1 i = 0 := by omega
      have hl := hit.2.2.2.2.1 (Or.inl c116)
      have ea : (((x.2.1 2 i).toNat : Nat) : Int) = x.2.1 2 i := by omega
      have qH := c_sayHeading (SE.gg g) hN ht hR1 CE (fun q hq => by rw [eU q hq]; have := u1 q; omega) (l := (x.2.1 2 i).toNat) (by omega) (by omega)
      rw [ea] at qH
      have eV : nHd (hD.2.1 (n + 5)) x.2.2.2 (x.2.1 2 i).toNat = nSaid x i := by
        unfold nSaid
        rw [if_pos c116]
        exact nHd_congr (by omega) (by omega) eU
      refine r_callv (j2 := 38) hm rfl rfl rfl rfl rfl rfl (by first | assumption | exact N5 | exact N4 | exact N3 | exact N2 | exact N1 | exact N0 | exact I1 _ (by omega)) (Nat.le_of_ble_eq_true rfl) (Nat.le_of_ble_eq_true rfl) rfl ⟨Nat.le_of_ble_eq_true rfl, Nat.le_of_ble_eq_true rfl, Nat.le_of_ble_eq_true rfl, Nat.le_of_ble_eq_true rfl, Nat.le_of_ble_eq_true rfl⟩ rfl (qH) (fun v9 h9 p9 => ?_)
      obtain ⟨e1, e2⟩ := p9
      subst e2
      replace e1 := e1.symm
      subst e1
      change RN 33 132 _ _ _ 0 0 _
      dsimp only [Option.toList, List.cons_append, List.nil_append]
      refine r_goto (t := 146) hm rfl (k := ?_)
      refine r_iast (hm := hm) (hf := rfl) (h28 := (by omega)) (hs := (by first | assumption | exact N5 | exact N4 | exact N3 | exact N2 | exact N1 | exact N0 | exact I1 _ (by omega))) (hi := rfl) (hn := (by omega)) (k := ?_)
      refine r_iinc hm rfl (hr := (by omega)) (k := ?_)
      refine r_goto (t := 22) hm rfl (k := ?_)
      refine K _ ⟨Sm.put SE (by unfold regN; omega), fun q hq => by rw [putI_ne (by omega)]; exact eU q hq, by rw [putI_ne (by omega)]; exact eF, by rw [putI_ne (by omega)]; exact eB, fun q hq => ?_⟩
      by_cases hq2 : q = i
      · subst hq2
        refine ⟨?_, ?_, ?_, fun k hk => ?_⟩
        · rw [putI_ne (by omega)]; exact eS
        · rw [putI_ne (by omega)]; exact eO
        · rw [putI_eq]
          exact eV
        · rw [putI_ne (by omega)]; exact eR k hk
      · obtain ⟨m1, m2, m3, m4⟩ := eM q (by omega)
        refine ⟨?_, ?_, ?_, fun k hk => ?_⟩
        · rw [putI_ne (by omega)]; exact m1
        · rw [putI_ne (by omega)]; exact m2
        · rw [putI_ne (by omega)]; exact m3
        · rw [putI_ne (by omega)]; exact m4 k hk
  · refine r_iconst hm rfl (k := ?_)
    refine r_goto (t := 103) hm rfl (k := ?_)
    refine r_callv (j2 := 37) hm rfl rfl rfl rfl rfl rfl (by first | assumption | exact N5 | exact N4 | exact N3 | exact N2 | exact N1 | exact N0 | exact I1 _ (by omega)) (Nat.le_of_ble_eq_true rfl) (Nat.le_of_ble_eq_true rfl) rfl ⟨Nat.le_of_ble_eq_true rfl, Nat.le_of_ble_eq_true rfl, Nat.le_of_ble_eq_true rfl, Nat.le_of_ble_eq_true rfl, Nat.le_of_ble_eq_true rfl⟩ rfl (c_writeRow (SC.gg g) hN (by omega)) (fun v9 hD p9 => ?_)
    obtain ⟨SD, cD, e1⟩ := p9
    subst e1
    have SE : Sm (regN n) h hD := SC.trans (SD.mono (fun a k q => by unfold regN; omega))
    have eS : hD.2.1 (n + 1) i = (nsN x (i + 1)).2.2.2 := by rw [SD.2.2 _ _ (by omega), putI_ne (by omega), SB.2.2 _ _ (by omega), putI_eq]
    have eO : hD.2.1 (n + 2) i = nOwn x i := by rw [SD.2.2 _ _ (by omega), putI_eq]
    have eF : hD.2.1 n 5 = (nsN x (i + 1)).2.1 := by
      rw [SD.2.2 _ _ (by omega), putI_ne (by omega), f3]
      by_cases k0 : x.2.1 1 i = 0
      · rw [if_neg (by omega), if_pos k0]
      · rw [if_neg k0, (nsS_1 k0).2.1]
    have eB : hD.2.1 n 6 = (nsN x (i + 1)).2.2.1 := by
      rw [SD.2.2 _ _ (by omega), putI_ne (by omega), b3]
      by_cases k0 : x.2.1 1 i = 0
      · rw [if_neg (by omega), if_pos k0]
      · rw [if_neg k0, (nsS_1 k0).2.2.1]
    have eU : ∀ q, q < 4 → hD.2.1 (n + 5) q = (nsN x (i + 1)).1 q := fun q hq => by rw [SD.2.2 _ _ (by omega), putI_ne (by omega), SB.2.2 _ _ (by omega), putI_ne (by omega), e4 q hq]
    have eR : ∀ q, q < 4 → hD.2.1 (n + 4) (4 * i + q) = nRow x i q := fun q hq => by
      rw [cD q hq]
      unfold nRow nLen nSec
      first
        | rw [if_pos (show (nsN x (i + 1)).2.2.2 = -1 by omega), putI_ne (by omega), SB.2.2 _ _ (by omega), putI_ne (by omega), e4 q hq]
        | rw [if_neg (show ¬ (nsN x (i + 1)).2.2.2 = -1 by omega), putI_ne (by omega), SB.2.2 _ _ (by omega), putI_ne (by omega), e4 q hq]
    have eW : ∀ a q, a ≠ n → (a = n + 4 → q < 4 * i) → a ≠ n + 5 → (a ≠ n + 4 → q < i) → hD.2.1 a q = h1.2.1 a q := fun a q w1 w2 w3 w4 => by
      rw [SD.2.2 _ _ (by omega), putI_ne (by omega), SB.2.2 _ _ (by omega), putI_ne (by omega)]
    have eM : NmR hD n x i := fun q hq => by
      obtain ⟨m1, m2, m3, m4⟩ := e7 q hq
      refine ⟨?_, ?_, ?_, fun k hk => ?_⟩
      · rw [eW _ _ (by omega) (by omega) (by omega) (by omega)]; exact m1
      · rw [eW _ _ (by omega) (by omega) (by omega) (by omega)]; exact m2
      · rw [eW _ _ (by omega) (by omega) (by omega) (by omega)]; exact m3
      · rw [eW _ _ (by omega) (by omega) (by omega) (by omega)]; exact m4 k hk
    obtain ⟨N0, N1, N2, N3, N4, N5, Q0, Q1, Q2, Q3, Q4, N28⟩ := (SE.gg g).nm hN
    obtain ⟨T1, T2, T3, T4, T5, T6, T7⟩ := (SE.gg g).tx ht
    have hR1 := SE.repC (regN_T hN ht) hR
    obtain ⟨I0, I1, I2, I3, I4, J0, J1, J2, F0, F1, F2, F3, F4, P0, P1, P2⟩ := hR1.use (SE.gg g) ht
    obtain ⟨R1, R2, R3, R4, R5, R6, R7⟩ := id hR1
    simp only [SE.itm] at I0 I1 F1 F2
    have CE := SE.cn (regN_28 hN) C
    change RN 33 106 _ _ _ 0 0 _
    dsimp only [Option.toList, List.nil_append]
    refine r_aload_n hm rfl (k := ?_)
    refine r_getR (hm := hm) (hf := rfl) (hd := rfl) (hs := (by first | assumption | exact N5 | exact N4 | exact N3 | exact N2 | exact N1 | exact N0 | exact I1 _ (by omega))) (hv := (by first | assumption | exact Q0 | exact Q1 | exact Q2 | exact Q3 | exact Q4 | exact I0 _ (by omega) | exact F1 _ (by omega) | exact F2 _ (by omega) | rfl)) (k := ?_)
    refine r_iload_n hm rfl (k := ?_)
    refine r_aload hm rfl (k := ?_)
    refine r_getI (hm := hm) (hf := rfl) (hd := rfl) (hs := (by first | assumption | exact N5 | exact N4 | exact N3 | exact N2 | exact N1 | exact N0 | exact I1 _ (by omega))) (hv := (by first | assumption | exact Q0 | exact Q1 | exact Q2 | exact Q3 | exact Q4 | exact I0 _ (by omega) | exact F1 _ (by omega) | exact F2 _ (by omega) | rfl)) (k := ?_)
    refine r_if_ne (t := 135) hm rfl rfl (fun c116 => ?_) (fun c116 => ?_)
    · refine r_aload_n hm rfl (k := ?_)
      refine r_iload_n hm rfl (k := ?_)
      refine r_aload hm rfl (k := ?_)
      refine r_aload_n hm rfl (k := ?_)
      refine r_getR (hm := hm) (hf := rfl) (hd := rfl) (hs := (by first | assumption | exact N5 | exact N4 | exact N3 | exact N2 | exact N1 | exact N0 | exact I1 _ (by omega))) (hv := (by first | assumption | exact Q0 | exact Q1 | exact Q2 | exact Q3 | exact Q4 | exact I0 _ (by omega) | exact F1 _ (by omega) | exact F2 _ (by omega) | rfl)) (k := ?_)
      have hown : 0 ≤ nOwn x i ∧ nOwn x i ≤ 100 := by
        unfold nOwn
        have := u1 (x.2.1 2 i - 1).toNat
        split
        · omega
        · split
          · omega
          · split <;> omega
      have qX := c_sayOther (SE.gg g) hN ht hR1 CE hi (by rw [eU 0 (by omega)]; have := u1 0; omega) (by rw [eO]; omega) (by rw [eS]; omega)
      rw [SE.itm, eO, eS, eU 0 (by omega)] at qX
      have eV : (if x.2.1 1 i = 2 ∨ x.2.1 1 i = 3 then (if x.2.2.2 10 = 1 then sdn ((nsN x (i + 1)).1 0).toNat (x.2.2.2 2) + 1 else 0) + fgs (nOwn x i) else if (nsN x (i + 1)).2.2.2 = -1 then 1 else hD.2.1 (n + 3) ((nsN x (i + 1)).2.2.2).toNat) = nSaid x i := by
        unfold nSaid
        rw [if_neg c116]
        by_cases k1 : x.2.1 1 i = 2 ∨ x.2.1 1 i = 3
        · rw [if_pos k1, if_pos k1]
        · rw [if_neg k1, if_neg k1]
          unfold nSec
          by_cases k2 : (nsN x (i + 1)).2.2.2 = -1
          · rw [if_pos k2, if_pos k2]
          · rw [if_neg k2, if_neg k2]
            have k3 := (nsS_1 c116).2.2.2
            have k4 : ((nsN x (i + 1)).2.2.2).toNat < i := by omega
            rw [(eM _ k4).2.2.1]
            unfold nSaid
            have k5 : x.2.1 1 ((nsN x (i + 1)).2.2.2).toNat = 0 := by rcases u5 with u5 | u5; exact absurd u5 k2; exact u5.2
            rw [if_pos k5]
      refine r_callv (j2 := 45) hm rfl rfl rfl rfl rfl rfl (by first | assumption | exact N5 | exact N4 | exact N3 | exact N2 | exact N1 | exact N0 | exact I1 _ (by omega)) (Nat.le_of_ble_eq_true rfl) (Nat.le_of_ble_eq_true rfl) rfl ⟨Nat.le_of_ble_eq_true rfl, Nat.le_of_ble_eq_true rfl, Nat.le_of_ble_eq_true rfl, Nat.le_of_ble_eq_true rfl, Nat.le_of_ble_eq_true rfl⟩ rfl (qX) (fun v9 h9 p9 => ?_)
      obtain ⟨e1, e2⟩ := p9
      subst e2
      replace e1 := e1.symm
      subst e1
      change RN 33 146 _ _ _ 0 0 _
      dsimp only [Option.toList, List.cons_append, List.nil_append]
      refine r_iast (hm := hm) (hf := rfl) (h28 := (by omega)) (hs := (by first | assumption | exact N5 | exact N4 | exact N3 | exact N2 | exact N1 | exact N0 | exact I1 _ (by omega))) (hi := rfl) (hn := (by omega)) (k := ?_)
      refine r_iinc hm rfl (hr := (by omega)) (k := ?_)
      refine r_goto (t := 22) hm rfl (k := ?_)
      refine K _ ⟨Sm.put SE (by unfold regN; omega), fun q hq => by rw [putI_ne (by omega)]; exact eU q hq, by rw [putI_ne (by omega)]; exact eF, by rw [putI_ne (by omega)]; exact eB, fun q hq => ?_⟩
      by_cases hq2 : q = i
      · subst hq2
        refine ⟨?_, ?_, ?_, fun k hk => ?_⟩
        · rw [putI_ne (by omega)]; exact eS
        · rw [putI_ne (by omega)]; exact eO
        · rw [putI_eq]
          exact eV
        · rw [putI_ne (by omega)]; exact eR k hk
      · obtain ⟨m1, m2, m3, m4⟩ := eM q (by omega)
        refine ⟨?_, ?_, ?_, fun k hk => ?_⟩
        · rw [putI_ne (by omega)]; exact m1
        · rw [putI_ne (by omega)]; exact m2
        · rw [putI_ne (by omega)]; exact m3
        · rw [putI_ne (by omega)]; exact m4 k hk
    · refine r_aload_n hm rfl (k := ?_)
      refine r_aload hm rfl (k := ?_)
      refine r_getI (hm := hm) (hf := rfl) (hd := rfl) (hs := (by first | assumption | exact N5 | exact N4 | exact N3 | exact N2 | exact N1 | exact N0 | exact I1 _ (by omega))) (hv := (by first | assumption | exact Q0 | exact Q1 | exact Q2 | exact Q3 | exact Q4 | exact I0 _ (by omega) | exact F1 _ (by omega) | exact F2 _ (by omega) | rfl)) (k := ?_)
      refine r_aload_n hm rfl (k := ?_)
      refine r_getR (hm := hm) (hf := rfl) (hd := rfl) (hs := (by first | assumption | exact N5 | exact N4 | exact N3 | exact N2 | exact N1 | exact N0 | exact I1 _ (by omega))) (hv := (by first | assumption | exact Q0 | exact Q1 | exact Q2 | exact Q3 | exact Q4 | exact I0 _ (by omega) | exact F1 _ (by omega) | exact F2 _ (by omega) | rfl)) (k := ?_)
      replace c116 : x.2.1 1 i = 0 := by omega
      have hl := hit.2.2.2.2.1 (Or.inl c116)
      have ea : (((x.2.1 2 i).toNat : Nat) : Int) = x.2.1 2 i := by omega
      have qH := c_sayHeading (SE.gg g) hN ht hR1 CE (fun q hq => by rw [eU q hq]; have := u1 q; omega) (l := (x.2.1 2 i).toNat) (by omega) (by omega)
      rw [ea] at qH
      have eV : nHd (hD.2.1 (n + 5)) x.2.2.2 (x.2.1 2 i).toNat = nSaid x i := by
        unfold nSaid
        rw [if_pos c116]
        exact nHd_congr (by omega) (by omega) eU
      refine r_callv (j2 := 38) hm rfl rfl rfl rfl rfl rfl (by first | assumption | exact N5 | exact N4 | exact N3 | exact N2 | exact N1 | exact N0 | exact I1 _ (by omega)) (Nat.le_of_ble_eq_true rfl) (Nat.le_of_ble_eq_true rfl) rfl ⟨Nat.le_of_ble_eq_true rfl, Nat.le_of_ble_eq_true rfl, Nat.le_of_ble_eq_true rfl, Nat.le_of_ble_eq_true rfl, Nat.le_of_ble_eq_true rfl⟩ rfl (qH) (fun v9 h9 p9 => ?_)
      obtain ⟨e1, e2⟩ := p9
      subst e2
      replace e1 := e1.symm
      subst e1
      change RN 33 132 _ _ _ 0 0 _
      dsimp only [Option.toList, List.cons_append, List.nil_append]
      refine r_goto (t := 146) hm rfl (k := ?_)
      refine r_iast (hm := hm) (hf := rfl) (h28 := (by omega)) (hs := (by first | assumption | exact N5 | exact N4 | exact N3 | exact N2 | exact N1 | exact N0 | exact I1 _ (by omega))) (hi := rfl) (hn := (by omega)) (k := ?_)
      refine r_iinc hm rfl (hr := (by omega)) (k := ?_)
      refine r_goto (t := 22) hm rfl (k := ?_)
      refine K _ ⟨Sm.put SE (by unfold regN; omega), fun q hq => by rw [putI_ne (by omega)]; exact eU q hq, by rw [putI_ne (by omega)]; exact eF, by rw [putI_ne (by omega)]; exact eB, fun q hq => ?_⟩
      by_cases hq2 : q = i
      · subst hq2
        refine ⟨?_, ?_, ?_, fun k hk => ?_⟩
        · rw [putI_ne (by omega)]; exact eS
        · rw [putI_ne (by omega)]; exact eO
        · rw [putI_eq]
          exact eV
        · rw [putI_ne (by omega)]; exact eR k hk
      · obtain ⟨m1, m2, m3, m4⟩ := eM q (by omega)
        refine ⟨?_, ?_, ?_, fun k hk => ?_⟩
        · rw [putI_ne (by omega)]; exact m1
        · rw [putI_ne (by omega)]; exact m2
        · rw [putI_ne (by omega)]; exact m3
        · rw [putI_ne (by omega)]; exact m4 k hk
