/-! the class: a text set round by round -/
set_option maxRecDepth 8000 in
theorem c_sayAll {L : Nat} {h : Hp} {s t : Nat} {x : Tx} (g : GG L h) (hS : isS s) (ht : isT t) (hR : RepC h t x) (hok : okTx x) (hT8 : h.2.2.1 s 8 = some t) {H : Int} {lt : LT} (hl : okLt x lt) (hH : 8 ≤ H ∧ H ≤ 60) (hF : ∀ q, q < x.1 → h.2.1 (s + 8) q = (fst x q : Int)) (hpp : ∀ q k, q < x.1 → k < pcs x q → h.2.1 (s + 11) (fst x q + k) = ppf x H lt q k) (hq : PgC h (s + 2) x H (psf x H lt)) (hN : NmR h (s + 14) x x.1) (hnc : PcK h (s + 23) x (nct x (ppf x H lt)) x.1 0) (hmt : PcK h (s + 24) x (mnt x) x.1 0) : RN 79 0 [some (.inr (.inr (some (s)))), none, none, none, none] [] h 0 0 (fun v h2 => Sm (fun a _ => a = s + 22) h h2 ∧ PcK h2 (s + 22) x (nx x H lt) x.1 0 ∧ v = none) := by
  have hm : mrec 79 = some nM79 := rfl
  have n60 := hok.1
  have hp0 := (ly_ok hok hl hH x.1 (Nat.le_refl _)).2
  have hp1 : ∀ q k, q < x.1 → k < pcs x q → 1 ≤ ppf x H lt q k := fun q k hq hk => (hp0 q k hq hk).1
  have hp2 : ∀ q k, q < x.1 → k < pcs x q → 0 ≤ ppf x H lt q k ∧ ppf x H lt q k ≤ 1250 := fun q k hq hk => by have := hp0 q k hq hk; unfold ppf; omega
  refine r_iconst hm rfl (k := ?_)
  refine r_istore_n hm rfl (k := ?_)
  suffices LP : ∀ (d i : Nat) (h1 : Hp) (z2 z3 z4 : Option Vl), i + d = x.1 → Sm (fun a _ => a = s + 22) h h1 → PcK h1 (s + 22) x (nx x H lt) i 0 → RN 79 2 [some (.inr (.inr (some (s)))), some (.inl (i : Int)), z2, z3, z4] [] h1 0 0 (fun v h2 => Sm (fun a _ => a = s + 22) h h2 ∧ PcK h2 (s + 22) x (nx x H lt) x.1 0 ∧ v = none) from LP x.1 0 _ _ _ _ (by omega) Sm.refl PcK.nil
  refine fun d => Nat.strongRecOn d (fun d ih => ?_)
  intro i h1 z2 z3 z4 hd S1 pS
  have g1 := S1.gg g
  obtain ⟨G1, G2, G8, G9, G10, G11, G12, G13, K0, K1, K2, K3, K4, K5, K6, S28, G21⟩ := g1.ly hS
  obtain ⟨Z0, Z14, Z17, Z20, Z21, Z22, Z23, Z24, W0, W1, W2, W3, W4, W5, W6, W7, Y2⟩ := g1.st hS
  obtain ⟨T1, T2, T3, T4, T5, T6, T7⟩ := g1.tx ht
  have hR1 := S1.repC (fun a k q9 => isS_T hS ht (a := a) (by omega) (by omega)) hR
  obtain ⟨I0, I1, I2, I3, I4, J0, J1, J2, F0, F1, F2, F3, F4, P0, P1, P2⟩ := hR1.use g1 ht
  obtain ⟨R1, R2, R3, R4, R5, R6, R7⟩ := id hR1
  have eit := S1.itm t
  have w8 : h.2.2.1 s 8 = some t := hT8
  have W8 := (congrFun (congrFun (congrArg (fun z => z.1) S1.2.1) s) 8).trans w8
  simp only [S1.itm] at I0 I1 I2 I3 I4 J0 J1 J2 F0 F1 F2 F3 F4 P0 P1 P2
  have eP := fun q k hq hk => (S1.2.2 (s + 11) (fst x q + k) (by omega)).trans (hpp q k hq hk)
  have eC := fun q k hq hk => (S1.2.2 (s + 23) (fst x q + k) (by omega)).trans (hnc.1 q k hq hk)
  have eM := fun q k hq hk => (S1.2.2 (s + 24) (fst x q + k) (by omega)).trans (hmt.1 q k hq hk)
  have eF := fun q hq => (S1.2.2 (s + 8) q (by omega)).trans (hF q hq)
  refine r_iload_n hm rfl (k := ?_)
  refine r_aload_n hm rfl (k := ?_)
  refine r_getR (hm := hm) (hf := rfl) (hd := rfl) (hs := (by first | assumption | exact Z0 | exact Z14 | exact Z17 | exact Z20 | exact Z21 | exact Z22 | exact Z23 | exact Z24 | exact G1 | exact G8 | exact T1 | exact T2 | exact I1 _ (by omega) | exact I2 _ (by omega) | exact I3 _ (by omega) | exact I4 _ (by omega))) (hv := (by first | assumption | exact W8 | exact W0 | exact W1 | exact W2 | exact W4 | exact W5 | exact W6 | exact W7 | exact K0 | exact K1 | exact I0 _ (by omega) | exact J0 _ (by omega) | exact J1 _ (by omega) | exact J2 _ (by omega) | exact F4 _ (by omega) | exact P0 _ _ (by omega) (by omega) | exact P1 _ _ (by omega) (by omega) | exact P2 _ _ (by omega) (by omega) | exact eF _ (by omega) | exact eC _ _ (by omega) (by omega) | exact eM _ _ (by omega) (by omega))) (k := ?_)
  refine r_getI (hm := hm) (hf := rfl) (hd := rfl) (hs := (by first | assumption | exact Z0 | exact Z14 | exact Z17 | exact Z20 | exact Z21 | exact Z22 | exact Z23 | exact Z24 | exact G1 | exact G8 | exact T1 | exact T2 | exact I1 _ (by omega) | exact I2 _ (by omega) | exact I3 _ (by omega) | exact I4 _ (by omega))) (hv := (by first | assumption | exact W8 | exact W0 | exact W1 | exact W2 | exact W4 | exact W5 | exact W6 | exact W7 | exact K0 | exact K1 | exact I0 _ (by omega) | exact J0 _ (by omega) | exact J1 _ (by omega) | exact J2 _ (by omega) | exact F4 _ (by omega) | exact P0 _ _ (by omega) (by omega) | exact P1 _ _ (by omega) (by omega) | exact P2 _ _ (by omega) (by omega) | exact eF _ (by omega) | exact eC _ _ (by omega) (by omega) | exact eM _ _ (by omega) (by omega))) (k := ?_)
  refine r_icmp_ge (t := 161) hm rfl rfl (fun c10 => ?_) (fun c10 => ?_)
  · refine r_return hm rfl rfl (Nat.le_of_ble_eq_true rfl) (Nat.le_of_ble_eq_true rfl) ?_
    have ei : i = x.1 := by omega
    subst ei
    exact ⟨S1, pS, rfl⟩
  · have hi2 : i < x.1 := by omega
    obtain ⟨ep, ep2⟩ := pcs_eq hok hi2
    have hf := fst_le hok (i + 1) (by omega)
    have hf2 : fst x (i + 1) = fst x i + pcs x i := rfl
    have hIt := itm_S hS ht hR (i := i) (by omega)
    refine r_aload_n hm rfl (k := ?_)
    refine r_getR (hm := hm) (hf := rfl) (hd := rfl) (hs := (by first | assumption | exact Z0 | exact Z14 | exact Z17 | exact Z20 | exact Z21 | exact Z22 | exact Z23 | exact Z24 | exact G1 | exact G8 | exact T1 | exact T2 | exact I1 _ (by omega) | exact I2 _ (by omega) | exact I3 _ (by omega) | exact I4 _ (by omega))) (hv := (by first | assumption | exact W8 | exact W0 | exact W1 | exact W2 | exact W4 | exact W5 | exact W6 | exact W7 | exact K0 | exact K1 | exact I0 _ (by omega) | exact J0 _ (by omega) | exact J1 _ (by omega) | exact J2 _ (by omega) | exact F4 _ (by omega) | exact P0 _ _ (by omega) (by omega) | exact P1 _ _ (by omega) (by omega) | exact P2 _ _ (by omega) (by omega) | exact eF _ (by omega) | exact eC _ _ (by omega) (by omega) | exact eM _ _ (by omega) (by omega))) (k := ?_)
    refine r_getR (hm := hm) (hf := rfl) (hd := rfl) (hs := (by first | assumption | exact Z0 | exact Z14 | exact Z17 | exact Z20 | exact Z21 | exact Z22 | exact Z23 | exact Z24 | exact G1 | exact G8 | exact T1 | exact T2 | exact I1 _ (by omega) | exact I2 _ (by omega) | exact I3 _ (by omega) | exact I4 _ (by omega))) (hv := (by first | assumption | exact W8 | exact W0 | exact W1 | exact W2 | exact W4 | exact W5 | exact W6 | exact W7 | exact K0 | exact K1 | exact I0 _ (by omega) | exact J0 _ (by omega) | exact J1 _ (by omega) | exact J2 _ (by omega) | exact F4 _ (by omega) | exact P0 _ _ (by omega) (by omega) | exact P1 _ _ (by omega) (by omega) | exact P2 _ _ (by omega) (by omega) | exact eF _ (by omega) | exact eC _ _ (by omega) (by omega) | exact eM _ _ (by omega) (by omega))) (k := ?_)
    refine r_iload_n hm rfl (k := ?_)
    refine r_aald (hm := hm) (hf := rfl) (hs := (by first | assumption | exact Z0 | exact Z14 | exact Z17 | exact Z20 | exact Z21 | exact Z22 | exact Z23 | exact Z24 | exact G1 | exact G8 | exact T1 | exact T2 | exact I1 _ (by omega) | exact I2 _ (by omega) | exact I3 _ (by omega) | exact I4 _ (by omega))) (hkd := by decide) (hi := rfl) (hn := (by omega)) (hv := (by first | assumption | exact W8 | exact W0 | exact W1 | exact W2 | exact W4 | exact W5 | exact W6 | exact W7 | exact K0 | exact K1 | exact I0 _ (by omega) | exact J0 _ (by omega) | exact J1 _ (by omega) | exact J2 _ (by omega) | exact F4 _ (by omega) | exact P0 _ _ (by omega) (by omega) | exact P1 _ _ (by omega) (by omega) | exact P2 _ _ (by omega) (by omega) | exact eF _ (by omega) | exact eC _ _ (by omega) (by omega) | exact eM _ _ (by omega) (by omega))) (k := ?_)
    refine r_astore_n hm rfl (k := ?_)
    refine r_iconst hm rfl (k := ?_)
    refine r_istore_n hm rfl (k := ?_)
    suffices LP : ∀ (d2 k : Nat) (h1 : Hp) (z4 : Option Vl), k + d2 = pcs x i → Sm (fun a _ => a = s + 22) h h1 → PcK h1 (s + 22) x (nx x H lt) i k → RN 79 25 [some (.inr (.inr (some (s)))), some (.inl (i : Int)), some (.inr (.inr (some (itm h t i)))), some (.inl (k : Int)), z4] [] h1 0 0 (fun v h2 => Sm (fun a _ => a = s + 22) h h2 ∧ PcK h2 (s + 22) x (nx x H lt) x.1 0 ∧ v = none) from LP (pcs x i) 0 _ _ (by omega) S1 pS
    refine fun d2 => Nat.strongRecOn d2 (fun d2 ih2 => ?_)
    intro k h1 z4 hd2 S1 pS
    have g1 := S1.gg g
    obtain ⟨G1, G2, G8, G9, G10, G11, G12, G13, K0, K1, K2, K3, K4, K5, K6, S28, G21⟩ := g1.ly hS
    obtain ⟨Z0, Z14, Z17, Z20, Z21, Z22, Z23, Z24, W0, W1, W2, W3, W4, W5, W6, W7, Y2⟩ := g1.st hS
    obtain ⟨T1, T2, T3, T4, T5, T6, T7⟩ := g1.tx ht
    have hR1 := S1.repC (fun a k q9 => isS_T hS ht (a := a) (by omega) (by omega)) hR
    obtain ⟨I0, I1, I2, I3, I4, J0, J1, J2, F0, F1, F2, F3, F4, P0, P1, P2⟩ := hR1.use g1 ht
    obtain ⟨R1, R2, R3, R4, R5, R6, R7⟩ := id hR1
    have eit := S1.itm t
    have w8 : h.2.2.1 s 8 = some t := hT8
    have W8 := (congrFun (congrFun (congrArg (fun z => z.1) S1.2.1) s) 8).trans w8
    simp only [S1.itm] at I0 I1 I2 I3 I4 J0 J1 J2 F0 F1 F2 F3 F4 P0 P1 P2
    have eP := fun q k hq hk => (S1.2.2 (s + 11) (fst x q + k) (by omega)).trans (hpp q k hq hk)
    have eC := fun q k hq hk => (S1.2.2 (s + 23) (fst x q + k) (by omega)).trans (hnc.1 q k hq hk)
    have eM := fun q k hq hk => (S1.2.2 (s + 24) (fst x q + k) (by omega)).trans (hmt.1 q k hq hk)
    have eF := fun q hq => (S1.2.2 (s + 8) q (by omega)).trans (hF q hq)
    refine r_iload_n hm rfl (k := ?_)
    refine r_aload_n hm rfl (k := ?_)
    refine r_getI (hm := hm) (hf := rfl) (hd := rfl) (hs := (by first | assumption | exact Z0 | exact Z14 | exact Z17 | exact Z20 | exact Z21 | exact Z22 | exact Z23 | exact Z24 | exact G1 | exact G8 | exact T1 | exact T2 | exact I1 _ (by omega) | exact I2 _ (by omega) | exact I3 _ (by omega) | exact I4 _ (by omega))) (hv := (by first | assumption | exact W8 | exact W0 | exact W1 | exact W2 | exact W4 | exact W5 | exact W6 | exact W7 | exact K0 | exact K1 | exact I0 _ (by omega) | exact J0 _ (by omega) | exact J1 _ (by omega) | exact J2 _ (by omega) | exact F4 _ (by omega) | exact P0 _ _ (by omega) (by omega) | exact P1 _ _ (by omega) (by omega) | exact P2 _ _ (by omega) (by omega) | exact eF _ (by omega) | exact eC _ _ (by omega) (by omega) | exact eM _ _ (by omega) (by omega))) (k := ?_)
    refine r_icmp_ge (t := 155) hm rfl rfl (fun c30 => ?_) (fun c30 => ?_)
    · refine r_iinc hm rfl (hr := (by omega)) (k := ?_)
      refine r_goto (t := 2) hm rfl (k := ?_)
      have ek : k = pcs x i := by omega
      subst ek
      exact ih (d - 1) (by omega) (i + 1) _ _ _ _ (by omega) S1 pS.next
    · have hk2 : k < pcs x i := by omega
      have hz := hok.2.2.1 i k hi2 (by omega)
      unfold okPc at hz
      have hcr := nct_rng hok hp1 hi2 hk2
      have hpr := hp2 i k hi2 hk2
      refine r_aload_n hm rfl (k := ?_)
      refine r_getR (hm := hm) (hf := rfl) (hd := rfl) (hs := (by first | assumption | exact Z0 | exact Z14 | exact Z17 | exact Z20 | exact Z21 | exact Z22 | exact Z23 | exact Z24 | exact G1 | exact G8 | exact T1 | exact T2 | exact I1 _ (by omega) | exact I2 _ (by omega) | exact I3 _ (by omega) | exact I4 _ (by omega))) (hv := (by first | assumption | exact W8 | exact W0 | exact W1 | exact W2 | exact W4 | exact W5 | exact W6 | exact W7 | exact K0 | exact K1 | exact I0 _ (by omega) | exact J0 _ (by omega) | exact J1 _ (by omega) | exact J2 _ (by omega) | exact F4 _ (by omega) | exact P0 _ _ (by omega) (by omega) | exact P1 _ _ (by omega) (by omega) | exact P2 _ _ (by omega) (by omega) | exact eF _ (by omega) | exact eC _ _ (by omega) (by omega) | exact eM _ _ (by omega) (by omega))) (k := ?_)
      refine r_getR (hm := hm) (hf := rfl) (hd := rfl) (hs := (by first | assumption | exact Z0 | exact Z14 | exact Z17 | exact Z20 | exact Z21 | exact Z22 | exact Z23 | exact Z24 | exact G1 | exact G8 | exact T1 | exact T2 | exact I1 _ (by omega) | exact I2 _ (by omega) | exact I3 _ (by omega) | exact I4 _ (by omega))) (hv := (by first | assumption | exact W8 | exact W0 | exact W1 | exact W2 | exact W4 | exact W5 | exact W6 | exact W7 | exact K0 | exact K1 | exact I0 _ (by omega) | exact J0 _ (by omega) | exact J1 _ (by omega) | exact J2 _ (by omega) | exact F4 _ (by omega) | exact P0 _ _ (by omega) (by omega) | exact P1 _ _ (by omega) (by omega) | exact P2 _ _ (by omega) (by omega) | exact eF _ (by omega) | exact eC _ _ (by omega) (by omega) | exact eM _ _ (by omega) (by omega))) (k := ?_)
      refine r_iload_n hm rfl (k := ?_)
      refine r_iald (hm := hm) (hf := rfl) (hs := (by first | assumption | exact Z0 | exact Z14 | exact Z17 | exact Z20 | exact Z21 | exact Z22 | exact Z23 | exact Z24 | exact G1 | exact G8 | exact T1 | exact T2 | exact I1 _ (by omega) | exact I2 _ (by omega) | exact I3 _ (by omega) | exact I4 _ (by omega))) (hi := rfl) (hn := (by omega)) (hv := (by first | assumption | exact W8 | exact W0 | exact W1 | exact W2 | exact W4 | exact W5 | exact W6 | exact W7 | exact K0 | exact K1 | exact I0 _ (by omega) | exact J0 _ (by omega) | exact J1 _ (by omega) | exact J2 _ (by omega) | exact F4 _ (by omega) | exact P0 _ _ (by omega) (by omega) | exact P1 _ _ (by omega) (by omega) | exact P2 _ _ (by omega) (by omega) | exact eF _ (by omega) | exact eC _ _ (by omega) (by omega) | exact eM _ _ (by omega) (by omega))) (k := ?_)
      refine r_iload_n hm rfl (k := ?_)
      refine r_iadd hm rfl (hr := (by omega)) (k := ?_)
      refine r_istore hm rfl (k := ?_)
      refine r_aload_n hm rfl (k := ?_)
      refine r_getR (hm := hm) (hf := rfl) (hd := rfl) (hs := (by first | assumption | exact Z0 | exact Z14 | exact Z17 | exact Z20 | exact Z21 | exact Z22 | exact Z23 | exact Z24 | exact G1 | exact G8 | exact T1 | exact T2 | exact I1 _ (by omega) | exact I2 _ (by omega) | exact I3 _ (by omega) | exact I4 _ (by omega))) (hv := (by first | assumption | exact W8 | exact W0 | exact W1 | exact W2 | exact W4 | exact W5 | exact W6 | exact W7 | exact K0 | exact K1 | exact I0 _ (by omega) | exact J0 _ (by omega) | exact J1 _ (by omega) | exact J2 _ (by omega) | exact F4 _ (by omega) | exact P0 _ _ (by omega) (by omega) | exact P1 _ _ (by omega) (by omega) | exact P2 _ _ (by omega) (by omega) | exact eF _ (by omega) | exact eC _ _ (by omega) (by omega) | exact eM _ _ (by omega) (by omega))) (k := ?_)
      refine r_iload_n hm rfl (k := ?_)
      refine r_iald (hm := hm) (hf := rfl) (hs := (by first | assumption | exact Z0 | exact Z14 | exact Z17 | exact Z20 | exact Z21 | exact Z22 | exact Z23 | exact Z24 | exact G1 | exact G8 | exact T1 | exact T2 | exact I1 _ (by omega) | exact I2 _ (by omega) | exact I3 _ (by omega) | exact I4 _ (by omega))) (hi := rfl) (hn := (by omega)) (hv := (by first | assumption | exact W8 | exact W0 | exact W1 | exact W2 | exact W4 | exact W5 | exact W6 | exact W7 | exact K0 | exact K1 | exact I0 _ (by omega) | exact J0 _ (by omega) | exact J1 _ (by omega) | exact J2 _ (by omega) | exact F4 _ (by omega) | exact P0 _ _ (by omega) (by omega) | exact P1 _ _ (by omega) (by omega) | exact P2 _ _ (by omega) (by omega) | exact eF _ (by omega) | exact eC _ _ (by omega) (by omega) | exact eM _ _ (by omega) (by omega))) (k := ?_)
      by_cases s52_1 : x.2.2.1 0 i k = 1
      · refine r_lsw hm rfl rfl 80 (by rw [s52_1]; rfl) ?_
        have qP := c_pageOfPiece g1 hS (F := fst x i) (i := i) (k := k) (by omega) (by omega) (eF i hi2) (eP i k hi2 hk2)
        have qC := c_sayCall (way := x.2.2.1 2 i k) g1 hS (n := x.1) n60 (fun q hq => (S1.2.2 _ _ (by omega)).trans (hN q hq).2.2.1) (fun q hq9 => (S1.2.2 _ _ (by omega)).trans (hq.1.2.2.2.2.2.1 q (by have := (psf_ok hok hl hH).2.1 q hq9; omega))) (fun q hq9 => by have := (psf_ok hok hl hH).2.1 q hq9; omega) (@mnt_rng x i k) (pc := ppf x H lt i k) (by omega)
        refine r_aload_n hm rfl (k := ?_)
        refine r_getR (hm := hm) (hf := rfl) (hd := rfl) (hs := (by first | assumption | exact Z0 | exact Z14 | exact Z17 | exact Z20 | exact Z21 | exact Z22 | exact Z23 | exact Z24 | exact G1 | exact G8 | exact T1 | exact T2 | exact I1 _ (by omega) | exact I2 _ (by omega) | exact I3 _ (by omega) | exact I4 _ (by omega))) (hv := (by first | assumption | exact W8 | exact W0 | exact W1 | exact W2 | exact W4 | exact W5 | exact W6 | exact W7 | exact K0 | exact K1 | exact I0 _ (by omega) | exact J0 _ (by omega) | exact J1 _ (by omega) | exact J2 _ (by omega) | exact F4 _ (by omega) | exact P0 _ _ (by omega) (by omega) | exact P1 _ _ (by omega) (by omega) | exact P2 _ _ (by omega) (by omega) | exact eF _ (by omega) | exact eC _ _ (by omega) (by omega) | exact eM _ _ (by omega) (by omega))) (k := ?_)
        refine r_iload hm rfl (k := ?_)
        refine r_aload_n hm rfl (k := ?_)
        refine r_aload_n hm rfl (k := ?_)
        refine r_getR (hm := hm) (hf := rfl) (hd := rfl) (hs := (by first | assumption | exact Z0 | exact Z14 | exact Z17 | exact Z20 | exact Z21 | exact Z22 | exact Z23 | exact Z24 | exact G1 | exact G8 | exact T1 | exact T2 | exact I1 _ (by omega) | exact I2 _ (by omega) | exact I3 _ (by omega) | exact I4 _ (by omega))) (hv := (by first | assumption | exact W8 | exact W0 | exact W1 | exact W2 | exact W4 | exact W5 | exact W6 | exact W7 | exact K0 | exact K1 | exact I0 _ (by omega) | exact J0 _ (by omega) | exact J1 _ (by omega) | exact J2 _ (by omega) | exact F4 _ (by omega) | exact P0 _ _ (by omega) (by omega) | exact P1 _ _ (by omega) (by omega) | exact P2 _ _ (by omega) (by omega) | exact eF _ (by omega) | exact eC _ _ (by omega) (by omega) | exact eM _ _ (by omega) (by omega))) (k := ?_)
        refine r_iload hm rfl (k := ?_)
        refine r_iald (hm := hm) (hf := rfl) (hs := (by first | assumption | exact Z0 | exact Z14 | exact Z17 | exact Z20 | exact Z21 | exact Z22 | exact Z23 | exact Z24 | exact G1 | exact G8 | exact T1 | exact T2 | exact I1 _ (by omega) | exact I2 _ (by omega) | exact I3 _ (by omega) | exact I4 _ (by omega))) (kk := fst x i + k) (hi := by omega) (hn := (by omega)) (hv := (by first | assumption | exact W8 | exact W0 | exact W1 | exact W2 | exact W4 | exact W5 | exact W6 | exact W7 | exact K0 | exact K1 | exact I0 _ (by omega) | exact J0 _ (by omega) | exact J1 _ (by omega) | exact J2 _ (by omega) | exact F4 _ (by omega) | exact P0 _ _ (by omega) (by omega) | exact P1 _ _ (by omega) (by omega) | exact P2 _ _ (by omega) (by omega) | exact eF _ (by omega) | exact eC _ _ (by omega) (by omega) | exact eM _ _ (by omega) (by omega))) (k := ?_)
        refine r_aload_n hm rfl (k := ?_)
        refine r_getR (hm := hm) (hf := rfl) (hd := rfl) (hs := (by first | assumption | exact Z0 | exact Z14 | exact Z17 | exact Z20 | exact Z21 | exact Z22 | exact Z23 | exact Z24 | exact G1 | exact G8 | exact T1 | exact T2 | exact I1 _ (by omega) | exact I2 _ (by omega) | exact I3 _ (by omega) | exact I4 _ (by omega))) (hv := (by first | assumption | exact W8 | exact W0 | exact W1 | exact W2 | exact W4 | exact W5 | exact W6 | exact W7 | exact K0 | exact K1 | exact I0 _ (by omega) | exact J0 _ (by omega) | exact J1 _ (by omega) | exact J2 _ (by omega) | exact F4 _ (by omega) | exact P0 _ _ (by omega) (by omega) | exact P1 _ _ (by omega) (by omega) | exact P2 _ _ (by omega) (by omega) | exact eF _ (by omega) | exact eC _ _ (by omega) (by omega) | exact eM _ _ (by omega) (by omega))) (k := ?_)
        refine r_iload_n hm rfl (k := ?_)
        refine r_iald (hm := hm) (hf := rfl) (hs := (by first | assumption | exact Z0 | exact Z14 | exact Z17 | exact Z20 | exact Z21 | exact Z22 | exact Z23 | exact Z24 | exact G1 | exact G8 | exact T1 | exact T2 | exact I1 _ (by omega) | exact I2 _ (by omega) | exact I3 _ (by omega) | exact I4 _ (by omega))) (hi := rfl) (hn := (by omega)) (hv := (by first | assumption | exact W8 | exact W0 | exact W1 | exact W2 | exact W4 | exact W5 | exact W6 | exact W7 | exact K0 | exact K1 | exact I0 _ (by omega) | exact J0 _ (by omega) | exact J1 _ (by omega) | exact J2 _ (by omega) | exact F4 _ (by omega) | exact P0 _ _ (by omega) (by omega) | exact P1 _ _ (by omega) (by omega) | exact P2 _ _ (by omega) (by omega) | exact eF _ (by omega) | exact eC _ _ (by omega) (by omega) | exact eM _ _ (by omega) (by omega))) (k := ?_)
        refine r_aload_n hm rfl (k := ?_)
        refine r_getR (hm := hm) (hf := rfl) (hd := rfl) (hs := (by first | assumption | exact Z0 | exact Z14 | exact Z17 | exact Z20 | exact Z21 | exact Z22 | exact Z23 | exact Z24 | exact G1 | exact G8 | exact T1 | exact T2 | exact I1 _ (by omega) | exact I2 _ (by omega) | exact I3 _ (by omega) | exact I4 _ (by omega))) (hv := (by first | assumption | exact W8 | exact W0 | exact W1 | exact W2 | exact W4 | exact W5 | exact W6 | exact W7 | exact K0 | exact K1 | exact I0 _ (by omega) | exact J0 _ (by omega) | exact J1 _ (by omega) | exact J2 _ (by omega) | exact F4 _ (by omega) | exact P0 _ _ (by omega) (by omega) | exact P1 _ _ (by omega) (by omega) | exact P2 _ _ (by omega) (by omega) | exact eF _ (by omega) | exact eC _ _ (by omega) (by omega) | exact eM _ _ (by omega) (by omega))) (k := ?_)
        refine r_iload_n hm rfl (k := ?_)
        refine r_iload_n hm rfl (k := ?_)
        refine r_callv (j2 := 77) hm rfl rfl rfl rfl rfl rfl (by first | assumption | exact Z0 | exact Z14 | exact Z17 | exact Z20 | exact Z21 | exact Z22 | exact Z23 | exact Z24 | exact G1 | exact G8 | exact T1 | exact T2 | exact I1 _ (by omega) | exact I2 _ (by omega) | exact I3 _ (by omega) | exact I4 _ (by omega)) (Nat.le_of_ble_eq_true rfl) (Nat.le_of_ble_eq_true rfl) rfl ⟨Nat.le_of_ble_eq_true rfl, Nat.le_of_ble_eq_true rfl, Nat.le_of_ble_eq_true rfl, Nat.le_of_ble_eq_true rfl, Nat.le_of_ble_eq_true rfl⟩ rfl (qP) (fun v9 h9 p9 => ?_)
        obtain ⟨e1, e2⟩ := p9
        subst e2
        replace e1 := e1.symm
        subst e1
        change RN 79 109 _ _ _ 0 0 _
        dsimp only [Option.toList, List.cons_append, List.nil_append]
        refine r_callv (j2 := 80) hm rfl rfl rfl rfl rfl rfl (by first | assumption | exact Z0 | exact Z14 | exact Z17 | exact Z20 | exact Z21 | exact Z22 | exact Z23 | exact Z24 | exact G1 | exact G8 | exact T1 | exact T2 | exact I1 _ (by omega) | exact I2 _ (by omega) | exact I3 _ (by omega) | exact I4 _ (by omega)) (Nat.le_of_ble_eq_true rfl) (Nat.le_of_ble_eq_true rfl) rfl ⟨Nat.le_of_ble_eq_true rfl, Nat.le_of_ble_eq_true rfl, Nat.le_of_ble_eq_true rfl, Nat.le_of_ble_eq_true rfl, Nat.le_of_ble_eq_true rfl⟩ rfl (qC) (fun v9 h9 p9 => ?_)
        obtain ⟨e1, e2⟩ := p9
        subst e2
        replace e1 := e1.symm
        subst e1
        change RN 79 112 _ _ _ 0 0 _
        dsimp only [Option.toList, List.cons_append, List.nil_append]
        refine r_iast (hm := hm) (hf := rfl) (h28 := (by omega)) (hs := (by first | assumption | exact Z0 | exact Z14 | exact Z17 | exact Z20 | exact Z21 | exact Z22 | exact Z23 | exact Z24 | exact G1 | exact G8 | exact T1 | exact T2 | exact I1 _ (by omega) | exact I2 _ (by omega) | exact I3 _ (by omega) | exact I4 _ (by omega))) (kk := fst x i + k) (hi := by omega) (hn := (by omega)) (k := ?_)
        refine r_goto (t := 149) hm rfl (k := ?_)
        refine r_iinc hm rfl (hr := (by omega)) (k := ?_)
        refine r_goto (t := 25) hm rfl (k := ?_)
        refine ih2 (d2 - 1) (by omega) (k + 1) _ _ (by omega) (Sm.put S1 rfl) (pS.put ?_)
        unfold nx
        rw [if_pos (by omega)]
      by_cases s52_2 : x.2.2.1 0 i k = 2
      · refine r_lsw hm rfl rfl 116 (by rw [s52_2]; rfl) ?_
        refine r_aload_n hm rfl (k := ?_)
        refine r_getR (hm := hm) (hf := rfl) (hd := rfl) (hs := (by first | assumption | exact Z0 | exact Z14 | exact Z17 | exact Z20 | exact Z21 | exact Z22 | exact Z23 | exact Z24 | exact G1 | exact G8 | exact T1 | exact T2 | exact I1 _ (by omega) | exact I2 _ (by omega) | exact I3 _ (by omega) | exact I4 _ (by omega))) (hv := (by first | assumption | exact W8 | exact W0 | exact W1 | exact W2 | exact W4 | exact W5 | exact W6 | exact W7 | exact K0 | exact K1 | exact I0 _ (by omega) | exact J0 _ (by omega) | exact J1 _ (by omega) | exact J2 _ (by omega) | exact F4 _ (by omega) | exact P0 _ _ (by omega) (by omega) | exact P1 _ _ (by omega) (by omega) | exact P2 _ _ (by omega) (by omega) | exact eF _ (by omega) | exact eC _ _ (by omega) (by omega) | exact eM _ _ (by omega) (by omega))) (k := ?_)
        refine r_iload hm rfl (k := ?_)
        refine r_aload_n hm rfl (k := ?_)
        refine r_getR (hm := hm) (hf := rfl) (hd := rfl) (hs := (by first | assumption | exact Z0 | exact Z14 | exact Z17 | exact Z20 | exact Z21 | exact Z22 | exact Z23 | exact Z24 | exact G1 | exact G8 | exact T1 | exact T2 | exact I1 _ (by omega) | exact I2 _ (by omega) | exact I3 _ (by omega) | exact I4 _ (by omega))) (hv := (by first | assumption | exact W8 | exact W0 | exact W1 | exact W2 | exact W4 | exact W5 | exact W6 | exact W7 | exact K0 | exact K1 | exact I0 _ (by omega) | exact J0 _ (by omega) | exact J1 _ (by omega) | exact J2 _ (by omega) | exact F4 _ (by omega) | exact P0 _ _ (by omega) (by omega) | exact P1 _ _ (by omega) (by omega) | exact P2 _ _ (by omega) (by omega) | exact eF _ (by omega) | exact eC _ _ (by omega) (by omega) | exact eM _ _ (by omega) (by omega))) (k := ?_)
        refine r_iload hm rfl (k := ?_)
        refine r_iald (hm := hm) (hf := rfl) (hs := (by first | assumption | exact Z0 | exact Z14 | exact Z17 | exact Z20 | exact Z21 | exact Z22 | exact Z23 | exact Z24 | exact G1 | exact G8 | exact T1 | exact T2 | exact I1 _ (by omega) | exact I2 _ (by omega) | exact I3 _ (by omega) | exact I4 _ (by omega))) (kk := fst x i + k) (hi := by omega) (hn := (by omega)) (hv := (by first | assumption | exact W8 | exact W0 | exact W1 | exact W2 | exact W4 | exact W5 | exact W6 | exact W7 | exact K0 | exact K1 | exact I0 _ (by omega) | exact J0 _ (by omega) | exact J1 _ (by omega) | exact J2 _ (by omega) | exact F4 _ (by omega) | exact P0 _ _ (by omega) (by omega) | exact P1 _ _ (by omega) (by omega) | exact P2 _ _ (by omega) (by omega) | exact eF _ (by omega) | exact eC _ _ (by omega) (by omega) | exact eM _ _ (by omega) (by omega))) (k := ?_)
        refine r_calls (j2 := 43) hm rfl rfl rfl rfl rfl rfl (Nat.le_of_ble_eq_true rfl) (Nat.le_of_ble_eq_true rfl) rfl ⟨Nat.le_of_ble_eq_true rfl, Nat.le_of_ble_eq_true rfl, Nat.le_of_ble_eq_true rfl, Nat.le_of_ble_eq_true rfl, Nat.le_of_ble_eq_true rfl⟩ rfl (c_figures (by omega) (by omega)) (fun v9 h9 p9 => ?_)
        obtain ⟨e1, e2⟩ := p9
        subst e2
        replace e1 := e1.symm
        subst e1
        change RN 79 132 _ _ _ 0 0 _
        dsimp only [Option.toList, List.cons_append, List.nil_append]
        refine r_iast (hm := hm) (hf := rfl) (h28 := (by omega)) (hs := (by first | assumption | exact Z0 | exact Z14 | exact Z17 | exact Z20 | exact Z21 | exact Z22 | exact Z23 | exact Z24 | exact G1 | exact G8 | exact T1 | exact T2 | exact I1 _ (by omega) | exact I2 _ (by omega) | exact I3 _ (by omega) | exact I4 _ (by omega))) (kk := fst x i + k) (hi := by omega) (hn := (by omega)) (k := ?_)
        refine r_goto (t := 149) hm rfl (k := ?_)
        refine r_iinc hm rfl (hr := (by omega)) (k := ?_)
        refine r_goto (t := 25) hm rfl (k := ?_)
        refine ih2 (d2 - 1) (by omega) (k + 1) _ _ (by omega) (Sm.put S1 rfl) (pS.put ?_)
        unfold nx
        rw [if_neg (by omega), if_pos (by omega)]
      refine r_lsw hm rfl rfl 136 (by simp only [Op.lookupswitch.offset]; first | (simp [*]; done) | (rw [if_neg (by omega), if_neg (by omega)]; rfl)) ?_
      refine r_aload_n hm rfl (k := ?_)
      refine r_getR (hm := hm) (hf := rfl) (hd := rfl) (hs := (by first | assumption | exact Z0 | exact Z14 | exact Z17 | exact Z20 | exact Z21 | exact Z22 | exact Z23 | exact Z24 | exact G1 | exact G8 | exact T1 | exact T2 | exact I1 _ (by omega) | exact I2 _ (by omega) | exact I3 _ (by omega) | exact I4 _ (by omega))) (hv := (by first | assumption | exact W8 | exact W0 | exact W1 | exact W2 | exact W4 | exact W5 | exact W6 | exact W7 | exact K0 | exact K1 | exact I0 _ (by omega) | exact J0 _ (by omega) | exact J1 _ (by omega) | exact J2 _ (by omega) | exact F4 _ (by omega) | exact P0 _ _ (by omega) (by omega) | exact P1 _ _ (by omega) (by omega) | exact P2 _ _ (by omega) (by omega) | exact eF _ (by omega) | exact eC _ _ (by omega) (by omega) | exact eM _ _ (by omega) (by omega))) (k := ?_)
      refine r_iload hm rfl (k := ?_)
      refine r_aload_n hm rfl (k := ?_)
      refine r_getR (hm := hm) (hf := rfl) (hd := rfl) (hs := (by first | assumption | exact Z0 | exact Z14 | exact Z17 | exact Z20 | exact Z21 | exact Z22 | exact Z23 | exact Z24 | exact G1 | exact G8 | exact T1 | exact T2 | exact I1 _ (by omega) | exact I2 _ (by omega) | exact I3 _ (by omega) | exact I4 _ (by omega))) (hv := (by first | assumption | exact W8 | exact W0 | exact W1 | exact W2 | exact W4 | exact W5 | exact W6 | exact W7 | exact K0 | exact K1 | exact I0 _ (by omega) | exact J0 _ (by omega) | exact J1 _ (by omega) | exact J2 _ (by omega) | exact F4 _ (by omega) | exact P0 _ _ (by omega) (by omega) | exact P1 _ _ (by omega) (by omega) | exact P2 _ _ (by omega) (by omega) | exact eF _ (by omega) | exact eC _ _ (by omega) (by omega) | exact eM _ _ (by omega) (by omega))) (k := ?_)
      refine r_iload_n hm rfl (k := ?_)
      refine r_iald (hm := hm) (hf := rfl) (hs := (by first | assumption | exact Z0 | exact Z14 | exact Z17 | exact Z20 | exact Z21 | exact Z22 | exact Z23 | exact Z24 | exact G1 | exact G8 | exact T1 | exact T2 | exact I1 _ (by omega) | exact I2 _ (by omega) | exact I3 _ (by omega) | exact I4 _ (by omega))) (hi := rfl) (hn := (by omega)) (hv := (by first | assumption | exact W8 | exact W0 | exact W1 | exact W2 | exact W4 | exact W5 | exact W6 | exact W7 | exact K0 | exact K1 | exact I0 _ (by omega) | exact J0 _ (by omega) | exact J1 _ (by omega) | exact J2 _ (by omega) | exact F4 _ (by omega) | exact P0 _ _ (by omega) (by omega) | exact P1 _ _ (by omega) (by omega) | exact P2 _ _ (by omega) (by omega) | exact eF _ (by omega) | exact eC _ _ (by omega) (by omega) | exact eM _ _ (by omega) (by omega))) (k := ?_)
      refine r_iast (hm := hm) (hf := rfl) (h28 := (by omega)) (hs := (by first | assumption | exact Z0 | exact Z14 | exact Z17 | exact Z20 | exact Z21 | exact Z22 | exact Z23 | exact Z24 | exact G1 | exact G8 | exact T1 | exact T2 | exact I1 _ (by omega) | exact I2 _ (by omega) | exact I3 _ (by omega) | exact I4 _ (by omega))) (kk := fst x i + k) (hi := by omega) (hn := (by omega)) (k := ?_)
      refine r_iinc hm rfl (hr := (by omega)) (k := ?_)
      refine r_goto (t := 25) hm rfl (k := ?_)
      refine ih2 (d2 - 1) (by omega) (k + 1) _ _ (by omega) (Sm.put S1 rfl) (pS.put ?_)
      unfold nx
      rw [if_neg (by omega), if_neg (by omega)]
theorem fst_split {x : Tx} : ∀ (n p : Nat), p < fst x n → ∃ q k, q < n ∧ k < pcs x q ∧ p = fst x q + k := by
  intro n
  induction n with
  | zero => intro p h; exact absurd h (Nat.not_lt_zero _)
  | succ n ih =>
    intro p h
    have h2 : p < fst x n + pcs x n := h
    by_cases e : p < fst x n
    · obtain ⟨q, k, h3, h4, h5⟩ := ih p e
      exact ⟨q, k, by omega, h4, h5⟩
    · exact ⟨n, p - fst x n, by omega, by omega, by omega⟩
theorem c_areSaidNow {L : Nat} {h : Hp} {s b : Nat} {x : Tx} {f f2 : LT} (g : GG L h) (hS : isS s) (hok : okTx x) (hB : h.1[b]? = some (100, 1200)) (h12 : h.2.1 s 12 = (fst x x.1 : Int)) (hb : PcK h b x f x.1 0) (hs : PcK h (s + 22) x f2 x.1 0) : RN 83 0 [some (.inr (.inr (some (s)))), some (.inr (.inr (some (b)))), none] [] h 0 0 (fun v h2 => h2 = h ∧ v = some (.inl (if dfB x f2 f = false then 1 else 0))) := by
  have hm : mrec 83 = some nM83 := rfl
  have hf := fst_le hok x.1 (Nat.le_refl _)
  have n60 := hok.1
  obtain ⟨Z0, Z14, Z17, Z20, Z21, Z22, Z23, Z24, W0, W1, W2, W3, W4, W5, W6, W7, Y2⟩ := g.st hS
  refine r_iconst hm rfl (k := ?_)
  refine r_istore_n hm rfl (k := ?_)
  suffices LP : ∀ (d p : Nat), p + d = fst x x.1 → (∀ q k, q < x.1 → k < pcs x q → fst x q + k < p → f q k = f2 q k) → RN 83 2 [some (.inr (.inr (some (s)))), some (.inr (.inr (some (b)))), some (.inl (p : Int))] [] h 0 0 (fun v h2 => h2 = h ∧ v = some (.inl (if dfB x f2 f = false then 1 else 0))) from LP (fst x x.1) 0 (by omega) (fun q k _ _ h9 => absurd h9 (Nat.not_lt_zero _))
  refine fun d => Nat.strongRecOn d (fun d ih => ?_)
  intro p hd eQ
  refine r_iload_n hm rfl (k := ?_)
  refine r_aload_n hm rfl (k := ?_)
  refine r_getI (hm := hm) (hf := rfl) (hd := rfl) (hs := (by first | assumption | exact Z0 | exact Z22)) (hv := (by first | assumption | exact W5 | exact eb | exact es)) (k := ?_)
  refine r_icmp_ge (t := 30) hm rfl rfl (fun c7 => ?_) (fun c7 => ?_)
  · refine r_iconst hm rfl (k := ?_)
    refine r_ireturn hm rfl rfl (by first | rfl | decide) (Nat.le_of_ble_eq_true rfl) (Nat.le_of_ble_eq_true rfl) ?_
    refine ⟨rfl, ?_⟩
    rw [if_pos (dfB_f.mpr (fun q k hq hk => (eQ q k hq hk (by have := fst_lt (x := x) hq hk; omega)).symm))]
  · obtain ⟨q, k, hq, hk, hp⟩ := fst_split (x := x) x.1 p (by omega)
    have eb := hb.1 q k hq hk
    have es := hs.1 q k hq hk
    rw [← hp] at eb es
    refine r_aload_n hm rfl (k := ?_)
    refine r_iload_n hm rfl (k := ?_)
    refine r_iald (hm := hm) (hf := rfl) (hs := (by first | assumption | exact Z0 | exact Z22)) (hi := rfl) (hn := (by omega)) (hv := (by first | assumption | exact W5 | exact eb | exact es)) (k := ?_)
    refine r_aload_n hm rfl (k := ?_)
    refine r_getR (hm := hm) (hf := rfl) (hd := rfl) (hs := (by first | assumption | exact Z0 | exact Z22)) (hv := (by first | assumption | exact W5 | exact eb | exact es)) (k := ?_)
    refine r_iload_n hm rfl (k := ?_)
    refine r_iald (hm := hm) (hf := rfl) (hs := (by first | assumption | exact Z0 | exact Z22)) (hi := rfl) (hn := (by omega)) (hv := (by first | assumption | exact W5 | exact eb | exact es)) (k := ?_)
    refine r_icmp_eq (t := 24) hm rfl rfl (fun c19 => ?_) (fun c19 => ?_)
    · refine r_iinc hm rfl (hr := (by omega)) (k := ?_)
      refine r_goto (t := 2) hm rfl (k := ?_)
      refine ih (d - 1) (by omega) (p + 1) (by omega) (fun q2 k2 hq2 hk2 h9 => ?_)
      by_cases e : fst x q2 + k2 = p
      · have eb2 := hb.1 q2 k2 hq2 hk2
        have es2 := hs.1 q2 k2 hq2 hk2
        rw [e] at eb2 es2
        omega
      · exact eQ q2 k2 hq2 hk2 (by omega)
    · refine r_iconst hm rfl (k := ?_)
      refine r_ireturn hm rfl rfl (by first | rfl | decide) (Nat.le_of_ble_eq_true rfl) (Nat.le_of_ble_eq_true rfl) ?_
      refine ⟨rfl, ?_⟩
      rw [if_neg (fun z => by have := dfB_f.mp z q k hq hk; omega)]
theorem GG.rows {L : Nat} {h : Hp} (g : GG L h) : h.1[281]? = some (112, 12) ∧ ∀ k, k < 12 → h.1[282 + k]? = some (100, 1200) ∧ h.2.2.1 281 k = some (282 + k) := by
  refine ⟨by rw [g.1]; rfl, fun k hk => ⟨?_, ?_⟩⟩
  · rw [g.1]
    unfold shf
    rw [if_neg (by omega), if_neg (by omega), if_neg (by omega), if_neg (by omega), if_neg (by omega), if_neg (by omega), if_neg (by omega), if_pos (by omega)]
  · apply g.2
    unfold rff
    rw [if_neg (by omega), if_neg (by omega), if_neg (by omega), if_neg (by omega), if_neg (by omega), if_pos rfl, if_pos hk]
theorem c_roundSaidLike {L : Nat} {h : Hp} {s r : Nat} {x : Tx} {H : Int} (g : GG L h) (hS : isS s) (hok : okTx x) (hr : r ≤ 11) (h12 : h.2.1 s 12 = (fst x x.1 : Int)) (hb : ∀ d, d ≤ r → PcK h (282 + d) x (ltR x H d) x.1 0) (hs : PcK h (s + 22) x (ltR x H (r + 1)) x.1 0) : RN 82 0 [some (.inr (.inr (some (s)))), some (.inl (r : Int)), none] [] h 0 0 (fun v h2 => h2 = h ∧ v = some (.inl (lik x H r))) := by
  have hm : mrec 82 = some nM82 := rfl
  obtain ⟨Z0, Z14, Z17, Z20, Z21, Z22, Z23, Z24, W0, W1, W2, W3, W4, W5, W6, W7, Y2⟩ := g.st hS
  have RW := g.rows
  suffices LP : ∀ (d : Nat), d ≤ r + 1 → lkM x H r d = lik x H r → RN 82 2 [some (.inr (.inr (some (s)))), some (.inl (r : Int)), some (.inl ((d : Int) - 1))] [] h 0 0 (fun v h2 => h2 = h ∧ v = some (.inl (lik x H r))) by
    have b9 := LP (r + 1) (Nat.le_refl _) rfl
    rw [show (((r + 1 : Nat) : Int) - 1) = (r : Int) by omega] at b9
    refine r_iload_n hm rfl (k := ?_)
    refine r_istore_n hm rfl (k := ?_)
    exact b9
  intro d
  induction d with
  | zero =>
    intro hd hk
    refine r_iload_n hm rfl (k := ?_)
    refine r_if_lt (t := 27) hm rfl rfl (fun c3 => ?_) (fun c3 => ?_)
    · refine r_iconst hm rfl (k := ?_)
      refine r_ireturn hm rfl rfl (by rfl) (Nat.le_of_ble_eq_true rfl) (Nat.le_of_ble_eq_true rfl) ?_
      exact ⟨rfl, by rw [← hk]; rfl⟩
    · exfalso; omega
  | succ d ih =>
    intro hd hk
    refine r_iload_n hm rfl (k := ?_)
    refine r_if_lt (t := 27) hm rfl rfl (fun c3 => ?_) (fun c3 => ?_)
    · exfalso; omega
    · refine r_aload_n hm rfl (k := ?_)
      refine r_aload_n hm rfl (k := ?_)
      refine r_getR (hm := hm) (hf := rfl) (hd := rfl) (hs := (by first | assumption | exact Z0 | exact RW.1)) (hv := (by first | assumption | exact W3 | exact (RW.2 _ (by omega)).2)) (k := ?_)
      refine r_iload_n hm rfl (k := ?_)
      refine r_aald (hm := hm) (hf := rfl) (hs := (by first | assumption | exact Z0 | exact RW.1)) (hkd := by decide) (kk := d) (hi := by omega) (hn := (by omega)) (hv := (by first | assumption | exact W3 | exact (RW.2 _ (by omega)).2)) (k := ?_)
      refine r_callv (j2 := 83) hm rfl rfl rfl rfl rfl rfl (by first | assumption | exact Z0 | exact RW.1) (Nat.le_of_ble_eq_true rfl) (Nat.le_of_ble_eq_true rfl) rfl ⟨Nat.le_of_ble_eq_true rfl, Nat.le_of_ble_eq_true rfl, Nat.le_of_ble_eq_true rfl, Nat.le_of_ble_eq_true rfl, Nat.le_of_ble_eq_true rfl⟩ rfl (c_areSaidNow g hS hok (RW.2 d (by omega)).1 h12 (hb d (by omega)) hs) (fun v9 h9 p9 => ?_)
      obtain ⟨e1, e2⟩ := p9
      subst e2
      replace e1 := e1.symm
      subst e1
      change RN 82 16 _ _ _ 0 0 _
      dsimp only [Option.toList, List.cons_append, List.nil_append]
      refine r_if_eq (t := 21) hm rfl rfl (fun c16 => ?_) (fun c16 => ?_)
      · refine r_iinc hm rfl (hr := (by omega)) (k := ?_)
        refine r_goto (t := 2) hm rfl (k := ?_)
        have e0 : dfB x (ltR x H (r + 1)) (ltR x H d) ≠ false := fun z => by rw [if_pos z] at c16; omega
        have b9 := ih (by omega) (by rw [← hk]; show _ = (if _ then _ else _); rw [if_neg e0])
        rw [show ((d : Int) - 1) = (d : Int) + 1 - 1 + -1 by omega] at b9
        exact b9
      · refine r_iload_n hm rfl (k := ?_)
        refine r_ireturn hm rfl rfl (by rfl) (Nat.le_of_ble_eq_true rfl) (Nat.le_of_ble_eq_true rfl) ?_
        have e0 : dfB x (ltR x H (r + 1)) (ltR x H d) = false := Decidable.byContradiction (fun z => c16 (if_neg z))
        refine ⟨rfl, ?_⟩
        rw [← hk]
        show some (Sum.inl _) = some (Sum.inl (if _ then _ else _))
        rw [if_pos e0]
        congr 2
        omega
theorem c_pagesInAll {L : Nat} {h : Hp} {s t : Nat} {x : Tx} (g : GG L h) (hS : isS s) (ht : isT t) (hR : RepC h t x) (hok : okTx x) (hT8 : h.2.2.1 s 8 = some t) {H : Int} {q : PS} (hq : PgC h (s + 2) x H q) : RN 75 0 [some (.inr (.inr (some (s))))] [] h 0 0 (fun v h2 => h2 = h ∧ v = some (.inl (if x.1 = 0 then 0 else (q.1 : Int)))) := by
  have hm : mrec 75 = some nM75 := rfl
  obtain ⟨G1, G2, G8, G9, G10, G11, G12, G13, K0, K1, K2, K3, K4, K5, K6, S28, G21⟩ := g.ly hS
  obtain ⟨Z0, Z14, Z17, Z20, Z21, Z22, Z23, Z24, W0, W1, W2, W3, W4, W5, W6, W7, Y2⟩ := g.st hS
  obtain ⟨T1, T2, T3, T4, T5, T6, T7⟩ := g.tx ht
  obtain ⟨R1, -⟩ := id hR
  refine r_aload_n hm rfl (k := ?_)
  refine r_getR (hm := hm) (hf := rfl) (hd := rfl) (hs := (by first | assumption | exact Z0 | exact G1 | exact G2 | exact T1)) (hv := (by first | assumption | exact W0 | exact K0 | exact hq.1.1)) (k := ?_)
  refine r_getI (hm := hm) (hf := rfl) (hd := rfl) (hs := (by first | assumption | exact Z0 | exact G1 | exact G2 | exact T1)) (hv := (by first | assumption | exact W0 | exact K0 | exact hq.1.1)) (k := ?_)
  refine r_if_ne (t := 14) hm rfl rfl (fun c7 => ?_) (fun c7 => ?_)
  · refine r_aload_n hm rfl (k := ?_)
    refine r_getR (hm := hm) (hf := rfl) (hd := rfl) (hs := (by first | assumption | exact Z0 | exact G1 | exact G2 | exact T1)) (hv := (by first | assumption | exact W0 | exact K0 | exact hq.1.1)) (k := ?_)
    refine r_getR (hm := hm) (hf := rfl) (hd := rfl) (hs := (by first | assumption | exact Z0 | exact G1 | exact G2 | exact T1)) (hv := (by first | assumption | exact W0 | exact K0 | exact hq.1.1)) (k := ?_)
    refine r_getI (hm := hm) (hf := rfl) (hd := rfl) (hs := (by first | assumption | exact Z0 | exact G1 | exact G2 | exact T1)) (hv := (by first | assumption | exact W0 | exact K0 | exact hq.1.1)) (k := ?_)
    refine r_ireturn hm rfl rfl (by rfl) (Nat.le_of_ble_eq_true rfl) (Nat.le_of_ble_eq_true rfl) ?_
    exact ⟨rfl, by first | (rw [if_pos (by omega)]; done) | (rw [if_neg (by omega)]; done)⟩
  · refine r_iconst hm rfl (k := ?_)
    refine r_goto (t := 24) hm rfl (k := ?_)
    refine r_ireturn hm rfl rfl (by rfl) (Nat.le_of_ble_eq_true rfl) (Nat.le_of_ble_eq_true rfl) ?_
    exact ⟨rfl, by first | (rw [if_pos (by omega)]; done) | (rw [if_neg (by omega)]; done)⟩
