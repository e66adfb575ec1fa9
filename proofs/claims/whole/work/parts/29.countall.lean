/-! the numbers of all items: the whole count -/
theorem c_countHeading2 {L : Nat} {h : Hp} {n : Nat} {x : Tx} {i : Nat} (g : GG L h) (hN : isN n) (hok : okTx x) (hi : i < x.1) (hk : x.2.1 1 i = 0) (e4 : ∀ q, q < 4 → h.2.1 (n + 5) q = (nsN x i).1 q) (e5 : h.2.1 n 5 = (nsN x i).2.1) (e6 : h.2.1 n 6 = (nsN x i).2.2.1) : RN 35 0 [some (.inr (.inr (some n))), some (.inl (x.2.1 2 i)), some (.inl (if x.2.2.2 10 = 1 then 1 else 0))] [] h 0 0 (fun v h2 => Sm (fun a _ => a = n ∨ a = n + 5) h h2 ∧ (∀ q, q < 4 → h2.2.1 (n + 5) q = (nsN x (i + 1)).1 q) ∧ h2.2.1 n 5 = (nsN x (i + 1)).2.1 ∧ h2.2.1 n 6 = (nsN x (i + 1)).2.2.1 ∧ v = none) := by
  have hit := hok.2.1 i hi
  have n60 := hok.1
  have hl := hit.2.2.2.2.1 (Or.inl hk)
  obtain ⟨v1, -⟩ := nsN_ok hok i (by omega)
  have ea : (((x.2.1 2 i).toNat : Nat) : Int) = x.2.1 2 i := by omega
  have q1 := c_countHeading g hN (l := (x.2.1 2 i).toNat) (z := if x.2.2.2 10 = 1 then 1 else 0) (by omega) (by omega) (by split <;> omega) (fun q hq => by rw [e4 q hq]; have := v1 q; omega)
  rw [ea] at q1
  refine RN.imp q1 (fun v h2 p => ?_)
  obtain ⟨e1, e2⟩ := p
  have f0 : ∀ q, q < 4 → (filI (putI h (n + 5) ((x.2.1 2 i).toNat - 1) (h.2.1 (n + 5) ((x.2.1 2 i).toNat - 1) + 1)) (n + 5) (x.2.1 2 i).toNat 4 0).2.1 (n + 5) q = (nsN x (i + 1)).1 q := by
    intro q hq
    rw [(nsS_0 hk q).1]
    by_cases k1 : (q : Int) = x.2.1 2 i - 1
    · rw [if_pos k1, filI_ne (by omega), show q = (x.2.1 2 i).toNat - 1 by omega, putI_eq, e4 _ (by omega)]
    · rw [if_neg k1]
      by_cases k2 : (q : Int) < x.2.1 2 i - 1
      · rw [if_pos k2, filI_ne (by omega), putI_ne (by omega), e4 q hq]
      · rw [if_neg k2, filI_eq (by omega)]
  obtain ⟨-, k5, k6, -⟩ := nsS_0 (i := i) hk 0
  rw [k5, k6]
  by_cases kz : x.2.1 2 i = 1 ∧ x.2.2.2 10 = 1
  · rw [if_pos kz, if_pos kz]
    rw [if_pos ⟨by omega, if_pos kz.2⟩] at e1
    subst e1
    refine ⟨Sm.put (Sm.put (Sm.fil (Sm.put Sm.refl (by omega)) (fun _ _ _ => by omega)) (by omega)) (by omega), fun q hq => ?_, ?_, ?_, e2⟩
    · rw [putI_ne (by omega), putI_ne (by omega)]; exact f0 q hq
    · rw [putI_ne (by omega), putI_eq]
    · rw [putI_eq]
  · rw [if_neg kz, if_neg kz]
    rw [if_neg (fun q => kz ⟨by omega, Decidable.byContradiction (fun k => by have q2 := q.2; rw [if_neg k] at q2; omega)⟩)] at e1
    subst e1
    refine ⟨Sm.fil (Sm.put Sm.refl (by omega)) (fun _ _ _ => by omega), f0, ?_, ?_, e2⟩
    · rw [filI_ne (by omega), putI_ne (by omega)]; exact e5
    · rw [filI_ne (by omega), putI_ne (by omega)]; exact e6
theorem c_countAll_l {L : Nat} {h : Hp} {n t : Nat} {x : Tx} (g : GG L h) (hN : isN n) (ht : isT t) (hR : RepC h t x) (C : CN h) (hok : okTx x) : ∀ (d i : Nat) (h1 : Hp) (z : Option Vl), i + d = x.1 → NmI h h1 n x i → RN 33 22 [some (.inr (.inr (some (n)))), some (.inr (.inr (some (t)))), some (.inl (nsN x i).2.2.2), some (.inl (i : Int)), z] [] h1 0 0 (fun v h2 => Sm (regN n) h h2 ∧ NmR h2 n x x.1 ∧ v = none) := by
  have hm : mrec 33 = some nM33 := rfl
  intro d
  induction d with
  | zero =>
    intro i h1 z hi N1I
    obtain ⟨S1, e4, e5, e6, e7⟩ := N1I
    obtain ⟨N0, N1, N2, N3, N4, N5, Q0, Q1, Q2, Q3, Q4, N28⟩ := (S1.gg g).nm hN
    obtain ⟨T1, T2, T3, T4, T5, T6, T7⟩ := (S1.gg g).tx ht
    have hR1 := S1.repC (regN_T hN ht) hR
    obtain ⟨I0, I1, I2, I3, I4, J0, J1, J2, F0, F1, F2, F3, F4, P0, P1, P2⟩ := hR1.use (S1.gg g) ht
    obtain ⟨R1, R2, R3, R4, R5, R6, R7⟩ := id hR1
    simp only [S1.itm] at I0 I1 F1 F2
    refine r_iload_n hm rfl (k := ?_)
    refine r_aload_n hm rfl (k := ?_)
    refine r_getI (hm := hm) (hf := rfl) (hd := rfl) (hs := (by first | assumption | exact N5 | exact N4 | exact N3 | exact N2 | exact N1 | exact N0 | exact I1 _ (by omega))) (hv := (by first | assumption | exact Q0 | exact Q1 | exact Q2 | exact Q3 | exact Q4 | exact I0 _ (by omega) | exact F1 _ (by omega) | exact F2 _ (by omega) | rfl)) (k := ?_)
    refine r_icmp_ge (t := 153) hm rfl rfl (fun c27 => ?_) (fun c27 => ?_)
    · refine r_return hm rfl rfl (Nat.le_of_ble_eq_true rfl) (Nat.le_of_ble_eq_true rfl) ?_
      have ei : i = x.1 := by omega
      subst ei
      exact ⟨S1, e7, rfl⟩
    · exfalso; omega
  | succ d ih =>
    intro i h1 z hi N1I
    obtain ⟨S1, e4, e5, e6, e7⟩ := N1I
    obtain ⟨N0, N1, N2, N3, N4, N5, Q0, Q1, Q2, Q3, Q4, N28⟩ := (S1.gg g).nm hN
    obtain ⟨T1, T2, T3, T4, T5, T6, T7⟩ := (S1.gg g).tx ht
    have hR1 := S1.repC (regN_T hN ht) hR
    obtain ⟨I0, I1, I2, I3, I4, J0, J1, J2, F0, F1, F2, F3, F4, P0, P1, P2⟩ := hR1.use (S1.gg g) ht
    obtain ⟨R1, R2, R3, R4, R5, R6, R7⟩ := id hR1
    simp only [S1.itm] at I0 I1 F1 F2
    refine r_iload_n hm rfl (k := ?_)
    refine r_aload_n hm rfl (k := ?_)
    refine r_getI (hm := hm) (hf := rfl) (hd := rfl) (hs := (by first | assumption | exact N5 | exact N4 | exact N3 | exact N2 | exact N1 | exact N0 | exact I1 _ (by omega))) (hv := (by first | assumption | exact Q0 | exact Q1 | exact Q2 | exact Q3 | exact Q4 | exact I0 _ (by omega) | exact F1 _ (by omega) | exact F2 _ (by omega) | rfl)) (k := ?_)
    refine r_icmp_ge (t := 153) hm rfl rfl (fun c27 => ?_) (fun c27 => ?_)
    · exfalso; omega
    · refine r_aload_n hm rfl (k := ?_)
      refine r_getR (hm := hm) (hf := rfl) (hd := rfl) (hs := (by first | assumption | exact N5 | exact N4 | exact N3 | exact N2 | exact N1 | exact N0 | exact I1 _ (by omega))) (hv := (by first | assumption | exact Q0 | exact Q1 | exact Q2 | exact Q3 | exact Q4 | exact I0 _ (by omega) | exact F1 _ (by omega) | exact F2 _ (by omega) | rfl)) (k := ?_)
      refine r_iload_n hm rfl (k := ?_)
      refine r_aald (hm := hm) (hf := rfl) (hs := (by first | assumption | exact N5 | exact N4 | exact N3 | exact N2 | exact N1 | exact N0 | exact I1 _ (by omega))) (hkd := by decide) (hi := rfl) (hn := (by omega)) (hv := (by first | assumption | exact Q0 | exact Q1 | exact Q2 | exact Q3 | exact Q4 | exact I0 _ (by omega) | exact F1 _ (by omega) | exact F2 _ (by omega) | rfl)) (k := ?_)
      refine r_astore hm rfl (k := ?_)
      refine r_aload hm rfl (k := ?_)
      refine r_getI (hm := hm) (hf := rfl) (hd := rfl) (hs := (by first | assumption | exact N5 | exact N4 | exact N3 | exact N2 | exact N1 | exact N0 | exact I1 _ (by omega))) (hv := (by first | assumption | exact Q0 | exact Q1 | exact Q2 | exact Q3 | exact Q4 | exact I0 _ (by omega) | exact F1 _ (by omega) | exact F2 _ (by omega) | rfl)) (k := ?_)
      refine r_if_ne (t := 64) hm rfl rfl (fun c43 => ?_) (fun c43 => ?_)
      · first
          | (by_cases k0 : x.2.1 1 i = 0
             · exfalso; omega
             · obtain ⟨k1, k2, k3, k4⟩ := nsS_1 k0
               rw [← k4]
               exact c_countAll_b g hN ht hR C hok (by omega) h1 S1 (fun q hq => by rw [k1]; exact e4 q hq) (by rw [if_neg k0]; exact e5) (by rw [if_neg k0]; exact e6) e7 (fun h3 p3 => ih (i + 1) h3 _ (by omega) p3))
          | (show RN 33 64 [_, _, some (.inl (i : Int)), _, _] _ _ _ _ _
             have b9 := c_countAll_b (i := i) (P := (fun v h2 => Sm (regN n) h h2 ∧ NmR h2 n x x.1 ∧ v = none)) g hN ht hR C hok (by omega) hB (S1.trans (SB.mono (fun a k q => by unfold regN; omega))) f4 (by rw [if_pos k0]; exact f5) (by rw [if_pos k0]; exact f6) (fun q hq => by
               obtain ⟨m1, m2, m3, m4⟩ := e7 q hq
               refine ⟨?_, ?_, ?_, fun k hk => ?_⟩
               · rw [SB.2.2 _ _ (by omega)]; exact m1
               · rw [SB.2.2 _ _ (by omega)]; exact m2
               · rw [SB.2.2 _ _ (by omega)]; exact m3
               · rw [SB.2.2 _ _ (by omega)]; exact m4 k hk) (fun h3 p3 => ih (i + 1) h3 _ (by omega) p3)
             rw [k4] at b9
             exact b9)
      · have k0 : x.2.1 1 i = 0 := by omega
        refine r_iload_n hm rfl (k := ?_)
        refine r_istore_n hm rfl (k := ?_)
        refine r_aload_n hm rfl (k := ?_)
        refine r_aload hm rfl (k := ?_)
        refine r_getI (hm := hm) (hf := rfl) (hd := rfl) (hs := (by first | assumption | exact N5 | exact N4 | exact N3 | exact N2 | exact N1 | exact N0 | exact I1 _ (by omega))) (hv := (by first | assumption | exact Q0 | exact Q1 | exact Q2 | exact Q3 | exact Q4 | exact I0 _ (by omega) | exact F1 _ (by omega) | exact F2 _ (by omega) | rfl)) (k := ?_)
        refine r_aload_n hm rfl (k := ?_)
        refine r_getR (hm := hm) (hf := rfl) (hd := rfl) (hs := (by first | assumption | exact N5 | exact N4 | exact N3 | exact N2 | exact N1 | exact N0 | exact I1 _ (by omega))) (hv := (by first | assumption | exact Q0 | exact Q1 | exact Q2 | exact Q3 | exact Q4 | exact I0 _ (by omega) | exact F1 _ (by omega) | exact F2 _ (by omega) | rfl)) (k := ?_)
        refine r_callv (j2 := 34) hm rfl rfl rfl rfl rfl rfl (by first | assumption | exact N5 | exact N4 | exact N3 | exact N2 | exact N1 | exact N0 | exact I1 _ (by omega)) (Nat.le_of_ble_eq_true rfl) (Nat.le_of_ble_eq_true rfl) rfl ⟨Nat.le_of_ble_eq_true rfl, Nat.le_of_ble_eq_true rfl, Nat.le_of_ble_eq_true rfl, Nat.le_of_ble_eq_true rfl, Nat.le_of_ble_eq_true rfl⟩ rfl (c_figuresAnew (s := t + 2) T3 T4 T7) (fun v9 h9 p9 => ?_)
        obtain ⟨e1, e2⟩ := p9
        subst e2
        replace e1 := e1.symm
        subst e1
        rw [R7 10 (by omega)]
        change RN 33 61 _ _ _ 0 0 _
        dsimp only [Option.toList, List.cons_append, List.nil_append]
        have qC := c_countHeading2 (S1.gg g) hN hok (by omega) k0 e4 e5 e6
        refine r_callv (j2 := 35) hm rfl rfl rfl rfl rfl rfl (by first | assumption | exact N5 | exact N4 | exact N3 | exact N2 | exact N1 | exact N0 | exact I1 _ (by omega)) (Nat.le_of_ble_eq_true rfl) (Nat.le_of_ble_eq_true rfl) rfl ⟨Nat.le_of_ble_eq_true rfl, Nat.le_of_ble_eq_true rfl, Nat.le_of_ble_eq_true rfl, Nat.le_of_ble_eq_true rfl, Nat.le_of_ble_eq_true rfl⟩ rfl (qC) (fun v9 hB p9 => ?_)
        obtain ⟨SB, f4, f5, f6, e1⟩ := p9
        subst e1
        obtain ⟨-, -, -, k4⟩ := nsS_0 (i := i) k0 0
        change RN 33 64 _ _ _ 0 0 _
        dsimp only [Option.toList, List.nil_append]
        first
          | (by_cases k0 : x.2.1 1 i = 0
             · exfalso; omega
             · obtain ⟨k1, k2, k3, k4⟩ := nsS_1 k0
               rw [← k4]
               exact c_countAll_b g hN ht hR C hok (by omega) h1 S1 (fun q hq => by rw [k1]; exact e4 q hq) (by rw [if_neg k0]; exact e5) (by rw [if_neg k0]; exact e6) e7 (fun h3 p3 => ih (i + 1) h3 _ (by omega) p3))
          | (show RN 33 64 [_, _, some (.inl (i : Int)), _, _] _ _ _ _ _
             have b9 := c_countAll_b (i := i) (P := (fun v h2 => Sm (regN n) h h2 ∧ NmR h2 n x x.1 ∧ v = none)) g hN ht hR C hok (by omega) hB (S1.trans (SB.mono (fun a k q => by unfold regN; omega))) f4 (by rw [if_pos k0]; exact f5) (by rw [if_pos k0]; exact f6) (fun q hq => by
               obtain ⟨m1, m2, m3, m4⟩ := e7 q hq
               refine ⟨?_, ?_, ?_, fun k hk => ?_⟩
               · rw [SB.2.2 _ _ (by omega)]; exact m1
               · rw [SB.2.2 _ _ (by omega)]; exact m2
               · rw [SB.2.2 _ _ (by omega)]; exact m3
               · rw [SB.2.2 _ _ (by omega)]; exact m4 k hk) (fun h3 p3 => ih (i + 1) h3 _ (by omega) p3)
             rw [k4] at b9
             exact b9)
theorem c_countAll {L : Nat} {h : Hp} {n t : Nat} {x : Tx} (g : GG L h) (hN : isN n) (ht : isT t) (hR : RepC h t x) (C : CN h) (hok : okTx x) : RN 33 0 [some (.inr (.inr (some (n)))), some (.inr (.inr (some (t)))), none, none, none] [] h 0 0 (fun v h2 => Sm (regN n) h h2 ∧ NmR h2 n x x.1 ∧ v = none) := by
  obtain ⟨N0, N1, N2, N3, N4, N5, Q0, Q1, Q2, Q3, Q4, N28⟩ := g.nm hN
  obtain ⟨T1, T2, T3, T4, T5, T6, T7⟩ := g.tx ht
  obtain ⟨I0, I1, I2, I3, I4, J0, J1, J2, F0, F1, F2, F3, F4, P0, P1, P2⟩ := hR.use g ht
  obtain ⟨R1, R2, R3, R4, R5, R6, R7⟩ := id hR
  have hm : mrec 33 = some nM33 := rfl
  refine r_aload_n hm rfl (k := ?_)
  refine r_getR (hm := hm) (hf := rfl) (hd := rfl) (hs := (by first | assumption | exact N5 | exact N0)) (hv := (by first | assumption | exact Q0 | exact Q1 | exact Q2 | exact Q3 | exact Q4 | exact I0 _ (by omega) | exact F1 _ (by omega) | exact F2 _ (by omega) | rfl)) (k := ?_)
  refine r_iconst hm rfl (k := ?_)
  refine r_calls (j2 := 5) hm rfl rfl rfl rfl rfl rfl (Nat.le_of_ble_eq_true rfl) (Nat.le_of_ble_eq_true rfl) rfl ⟨Nat.le_of_ble_eq_true rfl, Nat.le_of_ble_eq_true rfl, Nat.le_of_ble_eq_true rfl, Nat.le_of_ble_eq_true rfl, Nat.le_of_ble_eq_true rfl⟩ rfl (j_fill (n := 4) N5 (by omega) (by omega)) (fun v9 h9 p9 => ?_)
  obtain ⟨e1, e2⟩ := p9
  subst e2
  subst e1
  change RN 33 8 _ _ _ 0 0 _
  dsimp only [Option.toList, List.nil_append]
  refine r_aload_n hm rfl (k := ?_)
  refine r_iconst hm rfl (k := ?_)
  refine r_putI (hm := hm) (hf := rfl) (hd := rfl) (hs := (by first | assumption | exact N5 | exact N0)) (hfin := Or.inl rfl) (hz := fun q9 => absurd q9 (by decide)) (k := ?_)
  refine r_aload_n hm rfl (k := ?_)
  refine r_iconst hm rfl (k := ?_)
  refine r_putI (hm := hm) (hf := rfl) (hd := rfl) (hs := (by first | assumption | exact N5 | exact N0)) (hfin := Or.inl rfl) (hz := fun q9 => absurd q9 (by decide)) (k := ?_)
  refine r_iconst hm rfl (k := ?_)
  refine r_istore_n hm rfl (k := ?_)
  refine r_iconst hm rfl (k := ?_)
  refine r_istore_n hm rfl (k := ?_)
  refine c_countAll_l g hN ht hR C hok x.1 0 _ none (by omega) ⟨Sm.put (Sm.put (Sm.fil Sm.refl (fun k _ _ => by unfold regN; omega)) (by unfold regN; omega)) (by unfold regN; omega), fun q hq => ?_, ?_, ?_, fun q hq => by omega⟩
  · rw [putI_ne (by omega), putI_ne (by omega), filI_eq (by omega)]; rfl
  · rw [putI_ne (by omega), putI_eq]; rfl
  · rw [putI_eq]; rfl
