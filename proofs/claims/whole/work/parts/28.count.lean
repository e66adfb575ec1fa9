/-! the numbers of all items: class -/
theorem c_sayOther {L : Nat} {h : Hp} {n t : Nat} {x : Tx} (g : GG L h) (hN : isN n) (ht : isT t) (hR : RepC h t x) (C : CN h) {i : Nat} (hi : i < x.1) (hu : 0 ≤ h.2.1 (n + 5) 0 ∧ h.2.1 (n + 5) 0 ≤ 100) (ho : 0 ≤ h.2.1 (n + 2) i ∧ h.2.1 (n + 2) i ≤ 9999) (hs : -1 ≤ h.2.1 (n + 1) i ∧ h.2.1 (n + 1) i < 60) : RN 45 0 [some (.inr (.inr (some (n)))), some (.inl (i : Int)), some (.inr (.inr (some (itm h t i)))), some (.inr (.inr (some (t + 2)))), none] [] h 0 0 (fun v h2 => h2 = h ∧ v = some (.inl (if x.2.1 1 i = 2 ∨ x.2.1 1 i = 3 then (if x.2.2.2 10 = 1 then sdn (h.2.1 (n + 5) 0).toNat (x.2.2.2 2) + 1 else 0) + fgs (h.2.1 (n + 2) i) else if h.2.1 (n + 1) i = -1 then 1 else h.2.1 (n + 3) (h.2.1 (n + 1) i).toNat))) := by
  obtain ⟨N0, N1, N2, N3, N4, N5, Q0, Q1, Q2, Q3, Q4, N28⟩ := g.nm hN
  obtain ⟨T1, T2, T3, T4, T5, T6, T7⟩ := g.tx ht
  obtain ⟨I0, I1, I2, I3, I4, J0, J1, J2, F0, F1, F2, F3, F4, P0, P1, P2⟩ := hR.use g ht
  obtain ⟨R1, R2, R3, R4, R5, R6, R7⟩ := id hR
  have hm : mrec 45 = some nM45 := rfl
  refine r_aload_n hm rfl (k := ?_)
  refine r_callv (j2 := 46) hm rfl rfl rfl rfl rfl rfl (by first | assumption | exact N5 | exact N4 | exact N3 | exact N2 | exact N1 | exact N0 | exact I1 _ (by omega)) (Nat.le_of_ble_eq_true rfl) (Nat.le_of_ble_eq_true rfl) rfl ⟨Nat.le_of_ble_eq_true rfl, Nat.le_of_ble_eq_true rfl, Nat.le_of_ble_eq_true rfl, Nat.le_of_ble_eq_true rfl, Nat.le_of_ble_eq_true rfl⟩ rfl (c_floats g ht hR hi) (fun v9 h9 p9 => ?_)
  obtain ⟨e1, e2⟩ := p9
  subst e2
  replace e1 := e1.symm
  subst e1
  change RN 45 4 _ _ _ 0 0 _
  dsimp only [Option.toList, List.cons_append, List.nil_append]
  refine r_if_eq (t := 49) hm rfl rfl (fun c4 => ?_) (fun c4 => ?_)
  · refine r_aload_n hm rfl (k := ?_)
    refine r_getR (hm := hm) (hf := rfl) (hd := rfl) (hs := (by first | assumption | exact N5 | exact N4 | exact N3 | exact N2 | exact N1 | exact N0 | exact I1 _ (by omega))) (hv := (by first | assumption | exact Q0 | exact Q1 | exact Q2 | exact Q3 | exact Q4 | exact I0 _ (by omega) | exact F1 _ (by omega) | exact F2 _ (by omega) | rfl)) (k := ?_)
    refine r_iload_n hm rfl (k := ?_)
    refine r_iald (hm := hm) (hf := rfl) (hs := (by first | assumption | exact N5 | exact N4 | exact N3 | exact N2 | exact N1 | exact N0 | exact I1 _ (by omega))) (kk := i) (hi := by omega) (hn := (by omega)) (hv := (by first | assumption | exact Q0 | exact Q1 | exact Q2 | exact Q3 | exact Q4 | exact I0 _ (by omega) | exact F1 _ (by omega) | exact F2 _ (by omega) | rfl)) (k := ?_)
    refine r_iconst hm rfl (k := ?_)
    refine r_icmp_ne (t := 63) hm rfl rfl (fun c56 => ?_) (fun c56 => ?_)
    · refine r_aload_n hm rfl (k := ?_)
      refine r_getR (hm := hm) (hf := rfl) (hd := rfl) (hs := (by first | assumption | exact N5 | exact N4 | exact N3 | exact N2 | exact N1 | exact N0 | exact I1 _ (by omega))) (hv := (by first | assumption | exact Q0 | exact Q1 | exact Q2 | exact Q3 | exact Q4 | exact I0 _ (by omega) | exact F1 _ (by omega) | exact F2 _ (by omega) | rfl)) (k := ?_)
      refine r_aload_n hm rfl (k := ?_)
      refine r_getR (hm := hm) (hf := rfl) (hd := rfl) (hs := (by first | assumption | exact N5 | exact N4 | exact N3 | exact N2 | exact N1 | exact N0 | exact I1 _ (by omega))) (hv := (by first | assumption | exact Q0 | exact Q1 | exact Q2 | exact Q3 | exact Q4 | exact I0 _ (by omega) | exact F1 _ (by omega) | exact F2 _ (by omega) | rfl)) (k := ?_)
      refine r_iload_n hm rfl (k := ?_)
      refine r_iald (hm := hm) (hf := rfl) (hs := (by first | assumption | exact N5 | exact N4 | exact N3 | exact N2 | exact N1 | exact N0 | exact I1 _ (by omega))) (kk := i) (hi := by omega) (hn := (by omega)) (hv := (by first | assumption | exact Q0 | exact Q1 | exact Q2 | exact Q3 | exact Q4 | exact I0 _ (by omega) | exact F1 _ (by omega) | exact F2 _ (by omega) | rfl)) (k := ?_)
      refine r_iald (hm := hm) (hf := rfl) (hs := (by first | assumption | exact N5 | exact N4 | exact N3 | exact N2 | exact N1 | exact N0 | exact I1 _ (by omega))) (kk := (h.2.1 (n + 1) i).toNat) (hi := by omega) (hn := (by omega)) (hv := (by first | assumption | exact Q0 | exact Q1 | exact Q2 | exact Q3 | exact Q4 | exact I0 _ (by omega) | exact F1 _ (by omega) | exact F2 _ (by omega) | rfl)) (k := ?_)
      refine r_ireturn hm rfl rfl (by rfl) (Nat.le_of_ble_eq_true rfl) (Nat.le_of_ble_eq_true rfl) ?_
      refine ⟨rfl, ?_⟩
      have k4 : (if x.2.1 1 i = 2 ∨ x.2.1 1 i = 3 then (1 : Int) else 0) = 0 ↔ ¬ (x.2.1 1 i = 2 ∨ x.2.1 1 i = 3) := by split <;> simp_all
      rw [k4] at c4
      first
        | (rw [if_pos (by omega), if_pos (by simpa using c11)]; done)
        | (rw [if_pos (by omega), if_neg (by simpa using c11)]; done)
        | (rw [if_neg (by omega), if_pos (by omega)]; done)
        | (rw [if_neg (by omega), if_neg (by omega)]; done)
    · refine r_iconst hm rfl (k := ?_)
      refine r_goto (t := 74) hm rfl (k := ?_)
      refine r_ireturn hm rfl rfl (by rfl) (Nat.le_of_ble_eq_true rfl) (Nat.le_of_ble_eq_true rfl) ?_
      refine ⟨rfl, ?_⟩
      have k4 : (if x.2.1 1 i = 2 ∨ x.2.1 1 i = 3 then (1 : Int) else 0) = 0 ↔ ¬ (x.2.1 1 i = 2 ∨ x.2.1 1 i = 3) := by split <;> simp_all
      rw [k4] at c4
      first
        | (rw [if_pos (by omega), if_pos (by simpa using c11)]; done)
        | (rw [if_pos (by omega), if_neg (by simpa using c11)]; done)
        | (rw [if_neg (by omega), if_pos (by omega)]; done)
        | (rw [if_neg (by omega), if_neg (by omega)]; done)
  · refine r_aload_n hm rfl (k := ?_)
    refine r_callv (j2 := 34) hm rfl rfl rfl rfl rfl rfl (by first | assumption | exact N5 | exact N4 | exact N3 | exact N2 | exact N1 | exact N0 | exact I1 _ (by omega)) (Nat.le_of_ble_eq_true rfl) (Nat.le_of_ble_eq_true rfl) rfl ⟨Nat.le_of_ble_eq_true rfl, Nat.le_of_ble_eq_true rfl, Nat.le_of_ble_eq_true rfl, Nat.le_of_ble_eq_true rfl, Nat.le_of_ble_eq_true rfl⟩ rfl (c_figuresAnew (s := t + 2) T3 T4 T7) (fun v9 h9 p9 => ?_)
    obtain ⟨e1, e2⟩ := p9
    subst e2
    replace e1 := e1.symm
    subst e1
    rw [R7 10 (by omega)]
    change RN 45 11 _ _ _ 0 0 _
    dsimp only [Option.toList, List.cons_append, List.nil_append]
    refine r_if_eq (t := 33) hm rfl rfl (fun c11 => ?_) (fun c11 => ?_)
    · refine r_iconst hm rfl (k := ?_)
      refine r_istore hm rfl (k := ?_)
      have hg9 := fgs_rng (h.2.1 (n + 2) i)
      refine r_iload hm rfl (k := ?_)
      refine r_aload_n hm rfl (k := ?_)
      refine r_getR (hm := hm) (hf := rfl) (hd := rfl) (hs := (by first | assumption | exact N5 | exact N4 | exact N3 | exact N2 | exact N1 | exact N0 | exact I1 _ (by omega))) (hv := (by first | assumption | exact Q0 | exact Q1 | exact Q2 | exact Q3 | exact Q4 | exact I0 _ (by omega) | exact F1 _ (by omega) | exact F2 _ (by omega) | rfl)) (k := ?_)
      refine r_iload_n hm rfl (k := ?_)
      refine r_iald (hm := hm) (hf := rfl) (hs := (by first | assumption | exact N5 | exact N4 | exact N3 | exact N2 | exact N1 | exact N0 | exact I1 _ (by omega))) (kk := i) (hi := by omega) (hn := (by omega)) (hv := (by first | assumption | exact Q0 | exact Q1 | exact Q2 | exact Q3 | exact Q4 | exact I0 _ (by omega) | exact F1 _ (by omega) | exact F2 _ (by omega) | rfl)) (k := ?_)
      refine r_calls (j2 := 43) hm rfl rfl rfl rfl rfl rfl (Nat.le_of_ble_eq_true rfl) (Nat.le_of_ble_eq_true rfl) rfl ⟨Nat.le_of_ble_eq_true rfl, Nat.le_of_ble_eq_true rfl, Nat.le_of_ble_eq_true rfl, Nat.le_of_ble_eq_true rfl, Nat.le_of_ble_eq_true rfl⟩ rfl (c_figures (by omega) (by omega)) (fun v9 h9 p9 => ?_)
      obtain ⟨e1, e2⟩ := p9
      subst e2
      replace e1 := e1.symm
      subst e1
      change RN 45 47 _ _ _ 0 0 _
      dsimp only [Option.toList, List.cons_append, List.nil_append]
      refine r_iadd hm rfl (hr := (by omega)) (k := ?_)
      refine r_ireturn hm rfl rfl (by rfl) (Nat.le_of_ble_eq_true rfl) (Nat.le_of_ble_eq_true rfl) ?_
      refine ⟨rfl, ?_⟩
      have k4 : (if x.2.1 1 i = 2 ∨ x.2.1 1 i = 3 then (1 : Int) else 0) = 0 ↔ ¬ (x.2.1 1 i = 2 ∨ x.2.1 1 i = 3) := by split <;> simp_all
      rw [k4] at c4
      first
        | (rw [if_pos (by omega), if_pos (by simpa using c11)]; done)
        | (rw [if_pos (by omega), if_neg (by simpa using c11)]; done)
        | (rw [if_neg (by omega), if_pos (by omega)]; done)
        | (rw [if_neg (by omega), if_neg (by omega)]; done)
    · have hs9 := @sdn_rng (h.2.1 (n + 5) 0).toNat (x.2.2.2 2) (by omega)
      refine r_aload_n hm rfl (k := ?_)
      refine r_getR (hm := hm) (hf := rfl) (hd := rfl) (hs := (by first | assumption | exact N5 | exact N4 | exact N3 | exact N2 | exact N1 | exact N0 | exact I1 _ (by omega))) (hv := (by first | assumption | exact Q0 | exact Q1 | exact Q2 | exact Q3 | exact Q4 | exact I0 _ (by omega) | exact F1 _ (by omega) | exact F2 _ (by omega) | rfl)) (k := ?_)
      refine r_iconst hm rfl (k := ?_)
      refine r_iald (hm := hm) (hf := rfl) (hs := (by first | assumption | exact N5 | exact N4 | exact N3 | exact N2 | exact N1 | exact N0 | exact I1 _ (by omega))) (kk := 0) (hi := by omega) (hn := (by omega)) (hv := (by first | assumption | exact Q0 | exact Q1 | exact Q2 | exact Q3 | exact Q4 | exact I0 _ (by omega) | exact F1 _ (by omega) | exact F2 _ (by omega) | rfl)) (k := ?_)
      refine r_aload_n hm rfl (k := ?_)
      refine r_iconst hm rfl (k := ?_)
      refine r_callv (j2 := 39) hm rfl rfl rfl rfl rfl rfl (by first | assumption | exact N5 | exact N4 | exact N3 | exact N2 | exact N1 | exact N0 | exact I1 _ (by omega)) (Nat.le_of_ble_eq_true rfl) (Nat.le_of_ble_eq_true rfl) rfl ⟨Nat.le_of_ble_eq_true rfl, Nat.le_of_ble_eq_true rfl, Nat.le_of_ble_eq_true rfl, Nat.le_of_ble_eq_true rfl, Nat.le_of_ble_eq_true rfl⟩ rfl (c_form (s := t + 2) (l := 1) (by omega) (by omega) T3 T4 T7) (fun v9 h9 p9 => ?_)
      obtain ⟨e1, e2⟩ := p9
      subst e2
      replace e1 := e1.symm
      subst e1
      rw [R7 2 (by omega)]
      change RN 45 25 _ _ _ 0 0 _
      dsimp only [Option.toList, List.cons_append, List.nil_append]
      refine r_calls (j2 := 40) hm rfl rfl rfl rfl rfl rfl (Nat.le_of_ble_eq_true rfl) (Nat.le_of_ble_eq_true rfl) rfl ⟨Nat.le_of_ble_eq_true rfl, Nat.le_of_ble_eq_true rfl, Nat.le_of_ble_eq_true rfl, Nat.le_of_ble_eq_true rfl, Nat.le_of_ble_eq_true rfl⟩ rfl (c_saidI g C (by omega) (by omega)) (fun v9 h9 p9 => ?_)
      obtain ⟨e1, e2⟩ := p9
      subst e2
      replace e1 := e1.symm
      subst e1
      change RN 45 28 _ _ _ 0 0 _
      dsimp only [Option.toList, List.cons_append, List.nil_append]
      refine r_iconst hm rfl (k := ?_)
      refine r_iadd hm rfl (hr := (by omega)) (k := ?_)
      refine r_goto (t := 34) hm rfl (k := ?_)
      refine r_istore hm rfl (k := ?_)
      have hg9 := fgs_rng (h.2.1 (n + 2) i)
      refine r_iload hm rfl (k := ?_)
      refine r_aload_n hm rfl (k := ?_)
      refine r_getR (hm := hm) (hf := rfl) (hd := rfl) (hs := (by first | assumption | exact N5 | exact N4 | exact N3 | exact N2 | exact N1 | exact N0 | exact I1 _ (by omega))) (hv := (by first | assumption | exact Q0 | exact Q1 | exact Q2 | exact Q3 | exact Q4 | exact I0 _ (by omega) | exact F1 _ (by omega) | exact F2 _ (by omega) | rfl)) (k := ?_)
      refine r_iload_n hm rfl (k := ?_)
      refine r_iald (hm := hm) (hf := rfl) (hs := (by first | assumption | exact N5 | exact N4 | exact N3 | exact N2 | exact N1 | exact N0 | exact I1 _ (by omega))) (kk := i) (hi := by omega) (hn := (by omega)) (hv := (by first | assumption | exact Q0 | exact Q1 | exact Q2 | exact Q3 | exact Q4 | exact I0 _ (by omega) | exact F1 _ (by omega) | exact F2 _ (by omega) | rfl)) (k := ?_)
      refine r_calls (j2 := 43) hm rfl rfl rfl rfl rfl rfl (Nat.le_of_ble_eq_true rfl) (Nat.le_of_ble_eq_true rfl) rfl ⟨Nat.le_of_ble_eq_true rfl, Nat.le_of_ble_eq_true rfl, Nat.le_of_ble_eq_true rfl, Nat.le_of_ble_eq_true rfl, Nat.le_of_ble_eq_true rfl⟩ rfl (c_figures (by omega) (by omega)) (fun v9 h9 p9 => ?_)
      obtain ⟨e1, e2⟩ := p9
      subst e2
      replace e1 := e1.symm
      subst e1
      change RN 45 47 _ _ _ 0 0 _
      dsimp only [Option.toList, List.cons_append, List.nil_append]
      refine r_iadd hm rfl (hr := (by omega)) (k := ?_)
      refine r_ireturn hm rfl rfl (by rfl) (Nat.le_of_ble_eq_true rfl) (Nat.le_of_ble_eq_true rfl) ?_
      refine ⟨rfl, ?_⟩
      have k4 : (if x.2.1 1 i = 2 ∨ x.2.1 1 i = 3 then (1 : Int) else 0) = 0 ↔ ¬ (x.2.1 1 i = 2 ∨ x.2.1 1 i = 3) := by split <;> simp_all
      rw [k4] at c4
      first
        | (rw [if_pos (by omega), if_pos (by simpa using c11)]; done)
        | (rw [if_pos (by omega), if_neg (by simpa using c11)]; done)
        | (rw [if_neg (by omega), if_pos (by omega)]; done)
        | (rw [if_neg (by omega), if_neg (by omega)]; done)
theorem c_countOf {L : Nat} {h : Hp} {n : Nat} (g : GG L h) (hN : isN n) {i k : Nat} (hi : i < 60) (h1 : 1 ≤ k) (h4 : k ≤ 4) : RN 48 0 [some (.inr (.inr (some (n)))), some (.inl (i : Int)), some (.inl (k : Int))] [] h 0 0 (fun v h2 => h2 = h ∧ v = some (.inl (h.2.1 (n + 4) (4 * i + (k - 1))))) := by
  obtain ⟨N0, N1, N2, N3, N4, N5, Q0, Q1, Q2, Q3, Q4, N28⟩ := g.nm hN
  have hm : mrec 48 = some nM48 := rfl
  refine r_aload_n hm rfl (k := ?_)
  refine r_getR (hm := hm) (hf := rfl) (hd := rfl) (hs := (by first | assumption | exact N5 | exact N4 | exact N3 | exact N2 | exact N1 | exact N0 | exact I1 _ (by omega))) (hv := (by first | assumption | exact Q0 | exact Q1 | exact Q2 | exact Q3 | exact Q4 | exact I0 _ (by omega) | exact F1 _ (by omega) | exact F2 _ (by omega) | rfl)) (k := ?_)
  refine r_iload_n hm rfl (k := ?_)
  refine r_iconst hm rfl (k := ?_)
  refine r_imul hm rfl (hr := (by omega)) (k := ?_)
  refine r_iload_n hm rfl (k := ?_)
  refine r_iadd hm rfl (hr := (by omega)) (k := ?_)
  refine r_iconst hm rfl (k := ?_)
  refine r_isub hm rfl (hr := (by omega)) (k := ?_)
  refine r_iald (hm := hm) (hf := rfl) (hs := (by first | assumption | exact N5 | exact N4 | exact N3 | exact N2 | exact N1 | exact N0 | exact I1 _ (by omega))) (kk := 4 * i + (k - 1)) (hi := by omega) (hn := (by omega)) (hv := (by first | assumption | exact Q0 | exact Q1 | exact Q2 | exact Q3 | exact Q4 | exact I0 _ (by omega) | exact F1 _ (by omega) | exact F2 _ (by omega) | rfl)) (k := ?_)
  refine r_ireturn hm rfl rfl (by rfl) (Nat.le_of_ble_eq_true rfl) (Nat.le_of_ble_eq_true rfl) ?_
  exact ⟨rfl, rfl⟩
theorem c_ownCount2 {L : Nat} {h : Hp} {n t : Nat} {x : Tx} {f b : Int} (g : GG L h) (hN : isN n) (ht : isT t) (hR : RepC h t x) {i : Nat} (hi : i < x.1) (hok : okIt x i) (ef : h.2.1 n 5 = f) (eb : h.2.1 n 6 = b) (hf : (0 ≤ f ∧ f ≤ 100) ∧ (0 ≤ b ∧ b ≤ 100)) : RN 36 0 [some (.inr (.inr (some n))), some (.inr (.inr (some (itm h t i))))] [] h 0 0 (fun v h2 => Sm (fun a k => a = n ∧ 5 ≤ k) h h2 ∧ h2.2.1 n 5 = (if x.2.1 1 i = 2 then f + 1 else f) ∧ h2.2.1 n 6 = (if x.2.1 1 i = 3 then b + 1 else b) ∧ v = some (.inl (if x.2.1 1 i = 0 then h.2.1 (n + 5) (x.2.1 2 i - 1).toNat else if x.2.1 1 i = 2 then f + 1 else if x.2.1 1 i = 3 then b + 1 else 0))) := by
  subst ef
  subst eb
  refine RN.imp (c_ownCount g hN ht hR hi hok hf) (fun v h2 p => ?_)
  obtain ⟨e1, e2⟩ := p
  subst e1
  refine ⟨?_, ?_, ?_, e2⟩
  · split
    · exact Sm.put Sm.refl (by omega)
    · split
      · exact Sm.put Sm.refl (by omega)
      · exact Sm.refl
  · split
    · exact putI_eq
    · split
      · exact putI_ne (by omega)
      · rfl
  · split
    · rw [if_neg (by omega)]; exact putI_ne (by omega)
    · split
      · exact putI_eq
      · rfl
/-- places below i hold their numbers -/
def NmR (h : Hp) (n : Nat) (x : Tx) (i : Nat) : Prop := ∀ q, q < i → h.2.1 (n + 1) q = nSec x q ∧ h.2.1 (n + 2) q = nOwn x q ∧ h.2.1 (n + 3) q = nSaid x q ∧ ∀ k, k < 4 → h.2.1 (n + 4) (4 * q + k) = nRow x q k
def NmI (h h1 : Hp) (n : Nat) (x : Tx) (i : Nat) : Prop := Sm (regN n) h h1 ∧ (∀ q, q < 4 → h1.2.1 (n + 5) q = (nsN x i).1 q) ∧ h1.2.1 n 5 = (nsN x i).2.1 ∧ h1.2.1 n 6 = (nsN x i).2.2.1 ∧ NmR h1 n x i
theorem regN_T {n t : Nat} (hN : isN n) (ht : isT t) : ∀ a k, regN n a k → a < t ∨ t + 244 ≤ a := by
  intro a k q
  unfold regN at q
  rcases hN with rfl | rfl | rfl <;> rcases ht with rfl | rfl | rfl | rfl <;> omega
theorem regN_28 {n : Nat} (hN : isN n) : ∀ a k, regN n a k → 28 ≤ a := by
  intro a k q
  unfold regN at q
  rcases hN with rfl | rfl | rfl <;> omega
theorem nsS_0 {x : Tx} {i : Nat} (hk : x.2.1 1 i = 0) (q : Nat) : (nsN x (i + 1)).1 q = (if (q : Int) = x.2.1 2 i - 1 then (nsN x i).1 q + 1 else if (q : Int) < x.2.1 2 i - 1 then (nsN x i).1 q else 0) ∧ (nsN x (i + 1)).2.1 = (if x.2.1 2 i = 1 ∧ x.2.2.2 10 = 1 then 0 else (nsN x i).2.1) ∧ (nsN x (i + 1)).2.2.1 = (if x.2.1 2 i = 1 ∧ x.2.2.2 10 = 1 then 0 else (nsN x i).2.2.1) ∧ (nsN x (i + 1)).2.2.2 = (i : Int) := by
  have e : nsN x (i + 1) = nsS x i (nsN x i) := rfl
  rw [e]
  unfold nsS
  rw [if_pos hk]
  exact ⟨rfl, rfl, rfl, rfl⟩
theorem nsS_1 {x : Tx} {i : Nat} (hk : x.2.1 1 i ≠ 0) : (nsN x (i + 1)).1 = (nsN x i).1 ∧ (nsN x (i + 1)).2.1 = (if x.2.1 1 i = 2 then (nsN x i).2.1 + 1 else (nsN x i).2.1) ∧ (nsN x (i + 1)).2.2.1 = (if x.2.1 1 i = 3 then (nsN x i).2.2.1 + 1 else (nsN x i).2.2.1) ∧ (nsN x (i + 1)).2.2.2 = (nsN x i).2.2.2 := by
  have e : nsN x (i + 1) = nsS x i (nsN x i) := rfl
  rw [e]
  unfold nsS
  rw [if_neg hk]
  split
  · rename_i h2
    rw [if_neg (by omega)]
    exact ⟨rfl, rfl, rfl, rfl⟩
  · split <;> exact ⟨rfl, rfl, rfl, rfl⟩
/-- a heading's section is itself; what stands under no heading says 1 -/
theorem nSec_lt {x : Tx} (hok : okTx x) {i : Nat} (hi : i < x.1) : -1 ≤ nSec x i ∧ nSec x i ≤ i ∧ (x.2.1 1 i = 0 → nSec x i = i) ∧ (x.2.1 1 i ≠ 0 → nSec x i < i) ∧ (nSec x i ≠ -1 → x.2.1 1 (nSec x i).toNat = 0) := by
  obtain ⟨h1, h2, h3, h4, h5⟩ := nsN_ok hok (i + 1) (by omega)
  obtain ⟨-, -, -, h6, -⟩ := nsN_ok hok i (by omega)
  unfold nSec
  refine ⟨by omega, by omega, fun k => (nsS_0 k 0).2.2.2, fun k => by rw [(nsS_1 k).2.2.2]; omega, fun k => by rcases h5 with h5 | h5; exact absurd h5 k; exact h5.2⟩
