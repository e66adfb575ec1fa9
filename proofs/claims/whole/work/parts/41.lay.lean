/-! one round: class -/
set_option maxRecDepth 8000 in
theorem c_layHeading {L : Nat} {h : Hp} {s T i : Nat} {x : Tx} {H a z : Int} {q : PS} (g : GG L h) (C : CN h) (hS : isS s) (hH : 8 ≤ H ∧ H ≤ 60) (hq : PgC h (s + 2) x H q) (ok : PSok x T i q) (hT : T ≤ 1200) (hi : i ≤ 59) (ha : 1 ≤ a ∧ a ≤ 4) (hz : z = 0 ∨ z = 1) : RN 61 0 [some (.inr (.inr (some (s + 1)))), some (.inl (i : Int)), some (.inl a), some (.inl z)] [] h 0 0 (fun v h2 => Sm (fun a k => regP (s + 2) a k ∨ (a = s + 9 ∧ k = i)) h h2 ∧ PgC h2 (s + 2) x H (tk (se (sf (rm x H (hli a + 2) (if a = 1 ∧ z = 1 ∧ q.2.1 q.1 ≠ 0 then tn x H q else q)) i) i) (hli a)) ∧ h2.2.1 (s + 9) i = hli a ∧ v = none) := by
  have hm : mrec 61 = some nM61 := rfl
  have hr := hli_rng a
  have e2 : h.2.1 2 (a - 1).toNat = hli a := by
    rw [C.2.1]
    have : a = 1 ∨ a = 2 ∨ a = 3 ∨ a = 4 := by omega
    rcases this with rfl | rfl | rfl | rfl <;> rfl
  obtain ⟨G1, G2, G8, G9, G10, G11, G12, G13, K0, K1, K2, K3, K4, K5, K6, S28, G21⟩ := g.ly hS
  refine r_aload_n hm rfl (k := ?_)
  refine r_getR (hm := hm) (hf := rfl) (hd := rfl) (hs := (by first | assumption | exact G1 | exact G2 | exact G9 | exact (g.1 _).trans rfl)) (hv := (by first | assumption | exact K0 | exact K2 | exact e2)) (k := ?_)
  refine r_iload_n hm rfl (k := ?_)
  refine r_gets hm rfl (hd := rfl) (k := ?_)
  refine r_iload_n hm rfl (k := ?_)
  refine r_iconst hm rfl (k := ?_)
  refine r_isub hm rfl (hr := (by omega)) (k := ?_)
  refine r_iald (hm := hm) (hf := rfl) (hs := (by first | assumption | exact G1 | exact G2 | exact G9 | exact (g.1 _).trans rfl)) (kk := (a - 1).toNat) (hi := by omega) (hn := (by omega)) (hv := (by first | assumption | exact K0 | exact K2 | exact e2)) (k := ?_)
  refine r_iast (hm := hm) (hf := rfl) (h28 := (by omega)) (hs := (by first | assumption | exact G1 | exact G2 | exact G9 | exact (g.1 _).trans rfl)) (hi := rfl) (hn := (by omega)) (k := ?_)
  refine RN.abs (fun h1 => Sm (fun a k => regP (s + 2) a k ∨ (a = s + 9 ∧ k = i)) h h1 ∧ PgC h1 (s + 2) x H q ∧ h1.2.1 (s + 9) i = hli a) ⟨Sm.put Sm.refl (by unfold regP; omega), hq.same (Sm.put (S := fun a k => a = s + 9) Sm.refl rfl) (fun a k z => by omega), putI_eq⟩ (fun h1 H9 => ?_)
  clear hq
  obtain ⟨S1, hq, eln⟩ := H9
  have g1 := S1.gg g
  obtain ⟨G1, G2, G8, G9, G10, G11, G12, G13, K0, K1, K2, K3, K4, K5, K6, S28, G21⟩ := g1.ly hS
  refine r_iload_n hm rfl (k := ?_)
  refine r_iconst hm rfl (k := ?_)
  refine r_icmp_ne (t := 39) hm rfl rfl (fun c15 => ?_) (fun c15 => ?_)
  · have e39 : (if a = 1 ∧ z = 1 ∧ q.2.1 q.1 ≠ 0 then tn x H q else q) = q := if_neg (by omega)
    have ok1 := hd_ok (x := x) (H := H) (p := a = 1 ∧ z = 1 ∧ q.2.1 q.1 ≠ 0) hH hi ok (fun e => e.2.2)
    rw [← e39] at hq
    have qm := c_makeRoom g1 (isS_P hS) hH hq ok1 hT (by omega) (n := hli a + 2) (by omega)
    obtain ⟨c1, c2, c3⟩ := rm_ok (n := hli a + 2) hH hi ok1
    have c4 := c1.rng hT
    refine r_aload_n hm rfl (k := ?_)
    refine r_getR (hm := hm) (hf := rfl) (hd := rfl) (hs := (by first | assumption | exact G1 | exact G2 | exact G9 | exact (g.1 _).trans rfl)) (hv := (by first | assumption | exact K0 | exact K2 | exact e2)) (k := ?_)
    refine r_aload_n hm rfl (k := ?_)
    refine r_getR (hm := hm) (hf := rfl) (hd := rfl) (hs := (by first | assumption | exact G1 | exact G2 | exact G9 | exact (g.1 _).trans rfl)) (hv := (by first | assumption | exact K0 | exact K2 | exact e2)) (k := ?_)
    refine r_iload_n hm rfl (k := ?_)
    refine r_iald (hm := hm) (hf := rfl) (hs := (by first | assumption | exact G1 | exact G2 | exact G9 | exact (g.1 _).trans rfl)) (hi := rfl) (hn := (by omega)) (hv := (by first | assumption | exact K0 | exact K2 | exact e2)) (k := ?_)
    refine r_iconst hm rfl (k := ?_)
    refine r_iadd hm rfl (hr := (by omega)) (k := ?_)
    refine r_callv (j2 := 64) hm rfl rfl rfl rfl rfl rfl (by first | assumption | exact G1 | exact G2 | exact G9 | exact (g.1 _).trans rfl) (Nat.le_of_ble_eq_true rfl) (Nat.le_of_ble_eq_true rfl) rfl ⟨Nat.le_of_ble_eq_true rfl, Nat.le_of_ble_eq_true rfl, Nat.le_of_ble_eq_true rfl, Nat.le_of_ble_eq_true rfl, Nat.le_of_ble_eq_true rfl⟩ rfl (qm) (fun v9 hB p9 => ?_)
    obtain ⟨SB, hq2, e1⟩ := p9
    subst e1
    replace eln : hB.2.1 (s + 9) i = hli a := (SB.2.2 _ _ (by unfold regP; omega)).trans eln
    replace S1 : Sm (fun a k => regP (s + 2) a k ∨ (a = s + 9 ∧ k = i)) h hB := S1.trans (SB.mono (fun a k z => Or.inl z))
    have g1 := S1.gg g
    obtain ⟨G1, G2, G8, G9, G10, G11, G12, G13, K0, K1, K2, K3, K4, K5, K6, S28, G21⟩ := g1.ly hS
    change RN 61 54 _ _ _ 0 0 _
    dsimp only [Option.toList, List.nil_append]
    refine r_aload_n hm rfl (k := ?_)
    refine r_getR (hm := hm) (hf := rfl) (hd := rfl) (hs := (by first | assumption | exact G1 | exact G2 | exact G9 | exact (g.1 _).trans rfl)) (hv := (by first | assumption | exact K0 | exact K2 | exact e2)) (k := ?_)
    refine r_iload_n hm rfl (k := ?_)
    refine r_callv (j2 := 65) hm rfl rfl rfl rfl rfl rfl (by first | assumption | exact G1 | exact G2 | exact G9 | exact (g.1 _).trans rfl) (Nat.le_of_ble_eq_true rfl) (Nat.le_of_ble_eq_true rfl) rfl ⟨Nat.le_of_ble_eq_true rfl, Nat.le_of_ble_eq_true rfl, Nat.le_of_ble_eq_true rfl, Nat.le_of_ble_eq_true rfl, Nat.le_of_ble_eq_true rfl⟩ rfl (c_standHere g1 (isS_P hS) hH hq2 c4 (by omega)) (fun v9 hC p9 => ?_)
    obtain ⟨SB, hq3, e1⟩ := p9
    subst e1
    replace eln : hC.2.1 (s + 9) i = hli a := (SB.2.2 _ _ (by unfold regP; omega)).trans eln
    replace S1 : Sm (fun a k => regP (s + 2) a k ∨ (a = s + 9 ∧ k = i)) h hC := S1.trans (SB.mono (fun a k z => Or.inl z))
    have g1 := S1.gg g
    obtain ⟨G1, G2, G8, G9, G10, G11, G12, G13, K0, K1, K2, K3, K4, K5, K6, S28, G21⟩ := g1.ly hS
    change RN 61 62 _ _ _ 0 0 _
    dsimp only [Option.toList, List.nil_append]
    refine r_aload_n hm rfl (k := ?_)
    refine r_getR (hm := hm) (hf := rfl) (hd := rfl) (hs := (by first | assumption | exact G1 | exact G2 | exact G9 | exact (g.1 _).trans rfl)) (hv := (by first | assumption | exact K0 | exact K2 | exact e2)) (k := ?_)
    refine r_aload_n hm rfl (k := ?_)
    refine r_getR (hm := hm) (hf := rfl) (hd := rfl) (hs := (by first | assumption | exact G1 | exact G2 | exact G9 | exact (g.1 _).trans rfl)) (hv := (by first | assumption | exact K0 | exact K2 | exact e2)) (k := ?_)
    refine r_iload_n hm rfl (k := ?_)
    refine r_iald (hm := hm) (hf := rfl) (hs := (by first | assumption | exact G1 | exact G2 | exact G9 | exact (g.1 _).trans rfl)) (hi := rfl) (hn := (by omega)) (hv := (by first | assumption | exact K0 | exact K2 | exact e2)) (k := ?_)
    refine r_callv (j2 := 66) hm rfl rfl rfl rfl rfl rfl (by first | assumption | exact G1 | exact G2 | exact G9 | exact (g.1 _).trans rfl) (Nat.le_of_ble_eq_true rfl) (Nat.le_of_ble_eq_true rfl) rfl ⟨Nat.le_of_ble_eq_true rfl, Nat.le_of_ble_eq_true rfl, Nat.le_of_ble_eq_true rfl, Nat.le_of_ble_eq_true rfl, Nat.le_of_ble_eq_true rfl⟩ rfl (c_take g1 (isS_P hS) hH hq3 c4 (by omega)) (fun v9 hD p9 => ?_)
    obtain ⟨SB, hq4, e1⟩ := p9
    subst e1
    replace eln : hD.2.1 (s + 9) i = hli a := (SB.2.2 _ _ (by unfold regP; omega)).trans eln
    replace S1 : Sm (fun a k => regP (s + 2) a k ∨ (a = s + 9 ∧ k = i)) h hD := S1.trans (SB.mono (fun a k z => Or.inl z))
    have g1 := S1.gg g
    obtain ⟨G1, G2, G8, G9, G10, G11, G12, G13, K0, K1, K2, K3, K4, K5, K6, S28, G21⟩ := g1.ly hS
    change RN 61 75 _ _ _ 0 0 _
    dsimp only [Option.toList, List.nil_append]
    refine r_return hm rfl rfl (Nat.le_of_ble_eq_true rfl) (Nat.le_of_ble_eq_true rfl) ?_
    exact ⟨S1, hq4, eln, rfl⟩
  · refine r_iload_n hm rfl (k := ?_)
    refine r_if_eq (t := 39) hm rfl rfl (fun c19 => ?_) (fun c19 => ?_)
    · have e39 : (if a = 1 ∧ z = 1 ∧ q.2.1 q.1 ≠ 0 then tn x H q else q) = q := if_neg (by omega)
      have ok1 := hd_ok (x := x) (H := H) (p := a = 1 ∧ z = 1 ∧ q.2.1 q.1 ≠ 0) hH hi ok (fun e => e.2.2)
      rw [← e39] at hq
      have qm := c_makeRoom g1 (isS_P hS) hH hq ok1 hT (by omega) (n := hli a + 2) (by omega)
      obtain ⟨c1, c2, c3⟩ := rm_ok (n := hli a + 2) hH hi ok1
      have c4 := c1.rng hT
      refine r_aload_n hm rfl (k := ?_)
      refine r_getR (hm := hm) (hf := rfl) (hd := rfl) (hs := (by first | assumption | exact G1 | exact G2 | exact G9 | exact (g.1 _).trans rfl)) (hv := (by first | assumption | exact K0 | exact K2 | exact e2)) (k := ?_)
      refine r_aload_n hm rfl (k := ?_)
      refine r_getR (hm := hm) (hf := rfl) (hd := rfl) (hs := (by first | assumption | exact G1 | exact G2 | exact G9 | exact (g.1 _).trans rfl)) (hv := (by first | assumption | exact K0 | exact K2 | exact e2)) (k := ?_)
      refine r_iload_n hm rfl (k := ?_)
      refine r_iald (hm := hm) (hf := rfl) (hs := (by first | assumption | exact G1 | exact G2 | exact G9 | exact (g.1 _).trans rfl)) (hi := rfl) (hn := (by omega)) (hv := (by first | assumption | exact K0 | exact K2 | exact e2)) (k := ?_)
      refine r_iconst hm rfl (k := ?_)
      refine r_iadd hm rfl (hr := (by omega)) (k := ?_)
      refine r_callv (j2 := 64) hm rfl rfl rfl rfl rfl rfl (by first | assumption | exact G1 | exact G2 | exact G9 | exact (g.1 _).trans rfl) (Nat.le_of_ble_eq_true rfl) (Nat.le_of_ble_eq_true rfl) rfl ⟨Nat.le_of_ble_eq_true rfl, Nat.le_of_ble_eq_true rfl, Nat.le_of_ble_eq_true rfl, Nat.le_of_ble_eq_true rfl, Nat.le_of_ble_eq_true rfl⟩ rfl (qm) (fun v9 hB p9 => ?_)
      obtain ⟨SB, hq2, e1⟩ := p9
      subst e1
      replace eln : hB.2.1 (s + 9) i = hli a := (SB.2.2 _ _ (by unfold regP; omega)).trans eln
      replace S1 : Sm (fun a k => regP (s + 2) a k ∨ (a = s + 9 ∧ k = i)) h hB := S1.trans (SB.mono (fun a k z => Or.inl z))
      have g1 := S1.gg g
      obtain ⟨G1, G2, G8, G9, G10, G11, G12, G13, K0, K1, K2, K3, K4, K5, K6, S28, G21⟩ := g1.ly hS
      change RN 61 54 _ _ _ 0 0 _
      dsimp only [Option.toList, List.nil_append]
      refine r_aload_n hm rfl (k := ?_)
      refine r_getR (hm := hm) (hf := rfl) (hd := rfl) (hs := (by first | assumption | exact G1 | exact G2 | exact G9 | exact (g.1 _).trans rfl)) (hv := (by first | assumption | exact K0 | exact K2 | exact e2)) (k := ?_)
      refine r_iload_n hm rfl (k := ?_)
      refine r_callv (j2 := 65) hm rfl rfl rfl rfl rfl rfl (by first | assumption | exact G1 | exact G2 | exact G9 | exact (g.1 _).trans rfl) (Nat.le_of_ble_eq_true rfl) (Nat.le_of_ble_eq_true rfl) rfl ⟨Nat.le_of_ble_eq_true rfl, Nat.le_of_ble_eq_true rfl, Nat.le_of_ble_eq_true rfl, Nat.le_of_ble_eq_true rfl, Nat.le_of_ble_eq_true rfl⟩ rfl (c_standHere g1 (isS_P hS) hH hq2 c4 (by omega)) (fun v9 hC p9 => ?_)
      obtain ⟨SB, hq3, e1⟩ := p9
      subst e1
      replace eln : hC.2.1 (s + 9) i = hli a := (SB.2.2 _ _ (by unfold regP; omega)).trans eln
      replace S1 : Sm (fun a k => regP (s + 2) a k ∨ (a = s + 9 ∧ k = i)) h hC := S1.trans (SB.mono (fun a k z => Or.inl z))
      have g1 := S1.gg g
      obtain ⟨G1, G2, G8, G9, G10, G11, G12, G13, K0, K1, K2, K3, K4, K5, K6, S28, G21⟩ := g1.ly hS
      change RN 61 62 _ _ _ 0 0 _
      dsimp only [Option.toList, List.nil_append]
      refine r_aload_n hm rfl (k := ?_)
      refine r_getR (hm := hm) (hf := rfl) (hd := rfl) (hs := (by first | assumption | exact G1 | exact G2 | exact G9 | exact (g.1 _).trans rfl)) (hv := (by first | assumption | exact K0 | exact K2 | exact e2)) (k := ?_)
      refine r_aload_n hm rfl (k := ?_)
      refine r_getR (hm := hm) (hf := rfl) (hd := rfl) (hs := (by first | assumption | exact G1 | exact G2 | exact G9 | exact (g.1 _).trans rfl)) (hv := (by first | assumption | exact K0 | exact K2 | exact e2)) (k := ?_)
      refine r_iload_n hm rfl (k := ?_)
      refine r_iald (hm := hm) (hf := rfl) (hs := (by first | assumption | exact G1 | exact G2 | exact G9 | exact (g.1 _).trans rfl)) (hi := rfl) (hn := (by omega)) (hv := (by first | assumption | exact K0 | exact K2 | exact e2)) (k := ?_)
      refine r_callv (j2 := 66) hm rfl rfl rfl rfl rfl rfl (by first | assumption | exact G1 | exact G2 | exact G9 | exact (g.1 _).trans rfl) (Nat.le_of_ble_eq_true rfl) (Nat.le_of_ble_eq_true rfl) rfl ⟨Nat.le_of_ble_eq_true rfl, Nat.le_of_ble_eq_true rfl, Nat.le_of_ble_eq_true rfl, Nat.le_of_ble_eq_true rfl, Nat.le_of_ble_eq_true rfl⟩ rfl (c_take g1 (isS_P hS) hH hq3 c4 (by omega)) (fun v9 hD p9 => ?_)
      obtain ⟨SB, hq4, e1⟩ := p9
      subst e1
      replace eln : hD.2.1 (s + 9) i = hli a := (SB.2.2 _ _ (by unfold regP; omega)).trans eln
      replace S1 : Sm (fun a k => regP (s + 2) a k ∨ (a = s + 9 ∧ k = i)) h hD := S1.trans (SB.mono (fun a k z => Or.inl z))
      have g1 := S1.gg g
      obtain ⟨G1, G2, G8, G9, G10, G11, G12, G13, K0, K1, K2, K3, K4, K5, K6, S28, G21⟩ := g1.ly hS
      change RN 61 75 _ _ _ 0 0 _
      dsimp only [Option.toList, List.nil_append]
      refine r_return hm rfl rfl (Nat.le_of_ble_eq_true rfl) (Nat.le_of_ble_eq_true rfl) ?_
      exact ⟨S1, hq4, eln, rfl⟩
    · refine r_aload_n hm rfl (k := ?_)
      refine r_getR (hm := hm) (hf := rfl) (hd := rfl) (hs := (by first | assumption | exact G1 | exact G2 | exact G9 | exact (g.1 _).trans rfl)) (hv := (by first | assumption | exact K0 | exact K2 | exact e2)) (k := ?_)
      refine r_callv (j2 := 62) hm rfl rfl rfl rfl rfl rfl (by first | assumption | exact G1 | exact G2 | exact G9 | exact (g.1 _).trans rfl) (Nat.le_of_ble_eq_true rfl) (Nat.le_of_ble_eq_true rfl) rfl ⟨Nat.le_of_ble_eq_true rfl, Nat.le_of_ble_eq_true rfl, Nat.le_of_ble_eq_true rfl, Nat.le_of_ble_eq_true rfl, Nat.le_of_ble_eq_true rfl⟩ rfl (c_takenOfLast g1 (isS_P hS) hH hq (ok.rng hT)) (fun v9 h9 p9 => ?_)
      obtain ⟨e1, e2⟩ := p9
      subst e2
      replace e1 := e1.symm
      subst e1
      change RN 61 29 _ _ _ 0 0 _
      dsimp only [Option.toList, List.cons_append, List.nil_append]
      refine r_if_eq (t := 39) hm rfl rfl (fun c29 => ?_) (fun c29 => ?_)
      · have e39 : (if a = 1 ∧ z = 1 ∧ q.2.1 q.1 ≠ 0 then tn x H q else q) = q := if_neg (by omega)
        have ok1 := hd_ok (x := x) (H := H) (p := a = 1 ∧ z = 1 ∧ q.2.1 q.1 ≠ 0) hH hi ok (fun e => e.2.2)
        rw [← e39] at hq
        have qm := c_makeRoom g1 (isS_P hS) hH hq ok1 hT (by omega) (n := hli a + 2) (by omega)
        obtain ⟨c1, c2, c3⟩ := rm_ok (n := hli a + 2) hH hi ok1
        have c4 := c1.rng hT
        refine r_aload_n hm rfl (k := ?_)
        refine r_getR (hm := hm) (hf := rfl) (hd := rfl) (hs := (by first | assumption | exact G1 | exact G2 | exact G9 | exact (g.1 _).trans rfl)) (hv := (by first | assumption | exact K0 | exact K2 | exact e2)) (k := ?_)
        refine r_aload_n hm rfl (k := ?_)
        refine r_getR (hm := hm) (hf := rfl) (hd := rfl) (hs := (by first | assumption | exact G1 | exact G2 | exact G9 | exact (g.1 _).trans rfl)) (hv := (by first | assumption | exact K0 | exact K2 | exact e2)) (k := ?_)
        refine r_iload_n hm rfl (k := ?_)
        refine r_iald (hm := hm) (hf := rfl) (hs := (by first | assumption | exact G1 | exact G2 | exact G9 | exact (g.1 _).trans rfl)) (hi := rfl) (hn := (by omega)) (hv := (by first | assumption | exact K0 | exact K2 | exact e2)) (k := ?_)
        refine r_iconst hm rfl (k := ?_)
        refine r_iadd hm rfl (hr := (by omega)) (k := ?_)
        refine r_callv (j2 := 64) hm rfl rfl rfl rfl rfl rfl (by first | assumption | exact G1 | exact G2 | exact G9 | exact (g.1 _).trans rfl) (Nat.le_of_ble_eq_true rfl) (Nat.le_of_ble_eq_true rfl) rfl ⟨Nat.le_of_ble_eq_true rfl, Nat.le_of_ble_eq_true rfl, Nat.le_of_ble_eq_true rfl, Nat.le_of_ble_eq_true rfl, Nat.le_of_ble_eq_true rfl⟩ rfl (qm) (fun v9 hB p9 => ?_)
        obtain ⟨SB, hq2, e1⟩ := p9
        subst e1
        replace eln : hB.2.1 (s + 9) i = hli a := (SB.2.2 _ _ (by unfold regP; omega)).trans eln
        replace S1 : Sm (fun a k => regP (s + 2) a k ∨ (a = s + 9 ∧ k = i)) h hB := S1.trans (SB.mono (fun a k z => Or.inl z))
        have g1 := S1.gg g
        obtain ⟨G1, G2, G8, G9, G10, G11, G12, G13, K0, K1, K2, K3, K4, K5, K6, S28, G21⟩ := g1.ly hS
        change RN 61 54 _ _ _ 0 0 _
        dsimp only [Option.toList, List.nil_append]
        refine r_aload_n hm rfl (k := ?_)
        refine r_getR (hm := hm) (hf := rfl) (hd := rfl) (hs := (by first | assumption | exact G1 | exact G2 | exact G9 | exact (g.1 _).trans rfl)) (hv := (by first | assumption | exact K0 | exact K2 | exact e2)) (k := ?_)
        refine r_iload_n hm rfl (k := ?_)
        refine r_callv (j2 := 65) hm rfl rfl rfl rfl rfl rfl (by first | assumption | exact G1 | exact G2 | exact G9 | exact (g.1 _).trans rfl) (Nat.le_of_ble_eq_true rfl) (Nat.le_of_ble_eq_true rfl) rfl ⟨Nat.le_of_ble_eq_true rfl, Nat.le_of_ble_eq_true rfl, Nat.le_of_ble_eq_true rfl, Nat.le_of_ble_eq_true rfl, Nat.le_of_ble_eq_true rfl⟩ rfl (c_standHere g1 (isS_P hS) hH hq2 c4 (by omega)) (fun v9 hC p9 => ?_)
        obtain ⟨SB, hq3, e1⟩ := p9
        subst e1
        replace eln : hC.2.1 (s + 9) i = hli a := (SB.2.2 _ _ (by unfold regP; omega)).trans eln
        replace S1 : Sm (fun a k => regP (s + 2) a k ∨ (a = s + 9 ∧ k = i)) h hC := S1.trans (SB.mono (fun a k z => Or.inl z))
        have g1 := S1.gg g
        obtain ⟨G1, G2, G8, G9, G10, G11, G12, G13, K0, K1, K2, K3, K4, K5, K6, S28, G21⟩ := g1.ly hS
        change RN 61 62 _ _ _ 0 0 _
        dsimp only [Option.toList, List.nil_append]
        refine r_aload_n hm rfl (k := ?_)
        refine r_getR (hm := hm) (hf := rfl) (hd := rfl) (hs := (by first | assumption | exact G1 | exact G2 | exact G9 | exact (g.1 _).trans rfl)) (hv := (by first | assumption | exact K0 | exact K2 | exact e2)) (k := ?_)
        refine r_aload_n hm rfl (k := ?_)
        refine r_getR (hm := hm) (hf := rfl) (hd := rfl) (hs := (by first | assumption | exact G1 | exact G2 | exact G9 | exact (g.1 _).trans rfl)) (hv := (by first | assumption | exact K0 | exact K2 | exact e2)) (k := ?_)
        refine r_iload_n hm rfl (k := ?_)
        refine r_iald (hm := hm) (hf := rfl) (hs := (by first | assumption | exact G1 | exact G2 | exact G9 | exact (g.1 _).trans rfl)) (hi := rfl) (hn := (by omega)) (hv := (by first | assumption | exact K0 | exact K2 | exact e2)) (k := ?_)
        refine r_callv (j2 := 66) hm rfl rfl rfl rfl rfl rfl (by first | assumption | exact G1 | exact G2 | exact G9 | exact (g.1 _).trans rfl) (Nat.le_of_ble_eq_true rfl) (Nat.le_of_ble_eq_true rfl) rfl ⟨Nat.le_of_ble_eq_true rfl, Nat.le_of_ble_eq_true rfl, Nat.le_of_ble_eq_true rfl, Nat.le_of_ble_eq_true rfl, Nat.le_of_ble_eq_true rfl⟩ rfl (c_take g1 (isS_P hS) hH hq3 c4 (by omega)) (fun v9 hD p9 => ?_)
        obtain ⟨SB, hq4, e1⟩ := p9
        subst e1
        replace eln : hD.2.1 (s + 9) i = hli a := (SB.2.2 _ _ (by unfold regP; omega)).trans eln
        replace S1 : Sm (fun a k => regP (s + 2) a k ∨ (a = s + 9 ∧ k = i)) h hD := S1.trans (SB.mono (fun a k z => Or.inl z))
        have g1 := S1.gg g
        obtain ⟨G1, G2, G8, G9, G10, G11, G12, G13, K0, K1, K2, K3, K4, K5, K6, S28, G21⟩ := g1.ly hS
        change RN 61 75 _ _ _ 0 0 _
        dsimp only [Option.toList, List.nil_append]
        refine r_return hm rfl rfl (Nat.le_of_ble_eq_true rfl) (Nat.le_of_ble_eq_true rfl) ?_
        exact ⟨S1, hq4, eln, rfl⟩
      · refine r_aload_n hm rfl (k := ?_)
        refine r_getR (hm := hm) (hf := rfl) (hd := rfl) (hs := (by first | assumption | exact G1 | exact G2 | exact G9 | exact (g.1 _).trans rfl)) (hv := (by first | assumption | exact K0 | exact K2 | exact e2)) (k := ?_)
        refine r_callv (j2 := 63) hm rfl rfl rfl rfl rfl rfl (by first | assumption | exact G1 | exact G2 | exact G9 | exact (g.1 _).trans rfl) (Nat.le_of_ble_eq_true rfl) (Nat.le_of_ble_eq_true rfl) rfl ⟨Nat.le_of_ble_eq_true rfl, Nat.le_of_ble_eq_true rfl, Nat.le_of_ble_eq_true rfl, Nat.le_of_ble_eq_true rfl, Nat.le_of_ble_eq_true rfl⟩ rfl (c_turn g1 (isS_P hS) hH hq ok.1 hT (by omega) (by omega)) (fun v9 hA p9 => ?_)
        obtain ⟨SB, hq1, e1⟩ := p9
        subst e1
        replace eln : hA.2.1 (s + 9) i = hli a := (SB.2.2 _ _ (by unfold regP; omega)).trans eln
        replace S1 : Sm (fun a k => regP (s + 2) a k ∨ (a = s + 9 ∧ k = i)) h hA := S1.trans (SB.mono (fun a k z => Or.inl z))
        have g1 := S1.gg g
        obtain ⟨G1, G2, G8, G9, G10, G11, G12, G13, K0, K1, K2, K3, K4, K5, K6, S28, G21⟩ := g1.ly hS
        change RN 61 39 _ _ _ 0 0 _
        dsimp only [Option.toList, List.nil_append]
        have e39 : (if a = 1 ∧ z = 1 ∧ q.2.1 q.1 ≠ 0 then tn x H q else q) = tn x H q := if_pos (by omega)
        have ok1 := hd_ok (x := x) (H := H) (p := a = 1 ∧ z = 1 ∧ q.2.1 q.1 ≠ 0) hH hi ok (fun e => e.2.2)
        rw [← e39] at hq1
        have qm := c_makeRoom g1 (isS_P hS) hH hq1 ok1 hT (by omega) (n := hli a + 2) (by omega)
        obtain ⟨c1, c2, c3⟩ := rm_ok (n := hli a + 2) hH hi ok1
        have c4 := c1.rng hT
        refine r_aload_n hm rfl (k := ?_)
        refine r_getR (hm := hm) (hf := rfl) (hd := rfl) (hs := (by first | assumption | exact G1 | exact G2 | exact G9 | exact (g.1 _).trans rfl)) (hv := (by first | assumption | exact K0 | exact K2 | exact e2)) (k := ?_)
        refine r_aload_n hm rfl (k := ?_)
        refine r_getR (hm := hm) (hf := rfl) (hd := rfl) (hs := (by first | assumption | exact G1 | exact G2 | exact G9 | exact (g.1 _).trans rfl)) (hv := (by first | assumption | exact K0 | exact K2 | exact e2)) (k := ?_)
        refine r_iload_n hm rfl (k := ?_)
        refine r_iald (hm := hm) (hf := rfl) (hs := (by first | assumption | exact G1 | exact G2 | exact G9 | exact (g.1 _).trans rfl)) (hi := rfl) (hn := (by omega)) (hv := (by first | assumption | exact K0 | exact K2 | exact e2)) (k := ?_)
        refine r_iconst hm rfl (k := ?_)
        refine r_iadd hm rfl (hr := (by omega)) (k := ?_)
        refine r_callv (j2 := 64) hm rfl rfl rfl rfl rfl rfl (by first | assumption | exact G1 | exact G2 | exact G9 | exact (g.1 _).trans rfl) (Nat.le_of_ble_eq_true rfl) (Nat.le_of_ble_eq_true rfl) rfl ⟨Nat.le_of_ble_eq_true rfl, Nat.le_of_ble_eq_true rfl, Nat.le_of_ble_eq_true rfl, Nat.le_of_ble_eq_true rfl, Nat.le_of_ble_eq_true rfl⟩ rfl (qm) (fun v9 hB p9 => ?_)
        obtain ⟨SB, hq2, e1⟩ := p9
        subst e1
        replace eln : hB.2.1 (s + 9) i = hli a := (SB.2.2 _ _ (by unfold regP; omega)).trans eln
        replace S1 : Sm (fun a k => regP (s + 2) a k ∨ (a = s + 9 ∧ k = i)) h hB := S1.trans (SB.mono (fun a k z => Or.inl z))
        have g1 := S1.gg g
        obtain ⟨G1, G2, G8, G9, G10, G11, G12, G13, K0, K1, K2, K3, K4, K5, K6, S28, G21⟩ := g1.ly hS
        change RN 61 54 _ _ _ 0 0 _
        dsimp only [Option.toList, List.nil_append]
        refine r_aload_n hm rfl (k := ?_)
        refine r_getR (hm := hm) (hf := rfl) (hd := rfl) (hs := (by first | assumption | exact G1 | exact G2 | exact G9 | exact (g.1 _).trans rfl)) (hv := (by first | assumption | exact K0 | exact K2 | exact e2)) (k := ?_)
        refine r_iload_n hm rfl (k := ?_)
        refine r_callv (j2 := 65) hm rfl rfl rfl rfl rfl rfl (by first | assumption | exact G1 | exact G2 | exact G9 | exact (g.1 _).trans rfl) (Nat.le_of_ble_eq_true rfl) (Nat.le_of_ble_eq_true rfl) rfl ⟨Nat.le_of_ble_eq_true rfl, Nat.le_of_ble_eq_true rfl, Nat.le_of_ble_eq_true rfl, Nat.le_of_ble_eq_true rfl, Nat.le_of_ble_eq_true rfl⟩ rfl (c_standHere g1 (isS_P hS) hH hq2 c4 (by omega)) (fun v9 hC p9 => ?_)
        obtain ⟨SB, hq3, e1⟩ := p9
        subst e1
        replace eln : hC.2.1 (s + 9) i = hli a := (SB.2.2 _ _ (by unfold regP; omega)).trans eln
        replace S1 : Sm (fun a k => regP (s + 2) a k ∨ (a = s + 9 ∧ k = i)) h hC := S1.trans (SB.mono (fun a k z => Or.inl z))
        have g1 := S1.gg g
        obtain ⟨G1, G2, G8, G9, G10, G11, G12, G13, K0, K1, K2, K3, K4, K5, K6, S28, G21⟩ := g1.ly hS
        change RN 61 62 _ _ _ 0 0 _
        dsimp only [Option.toList, List.nil_append]
        refine r_aload_n hm rfl (k := ?_)
        refine r_getR (hm := hm) (hf := rfl) (hd := rfl) (hs := (by first | assumption | exact G1 | exact G2 | exact G9 | exact (g.1 _).trans rfl)) (hv := (by first | assumption | exact K0 | exact K2 | exact e2)) (k := ?_)
        refine r_aload_n hm rfl (k := ?_)
        refine r_getR (hm := hm) (hf := rfl) (hd := rfl) (hs := (by first | assumption | exact G1 | exact G2 | exact G9 | exact (g.1 _).trans rfl)) (hv := (by first | assumption | exact K0 | exact K2 | exact e2)) (k := ?_)
        refine r_iload_n hm rfl (k := ?_)
        refine r_iald (hm := hm) (hf := rfl) (hs := (by first | assumption | exact G1 | exact G2 | exact G9 | exact (g.1 _).trans rfl)) (hi := rfl) (hn := (by omega)) (hv := (by first | assumption | exact K0 | exact K2 | exact e2)) (k := ?_)
        refine r_callv (j2 := 66) hm rfl rfl rfl rfl rfl rfl (by first | assumption | exact G1 | exact G2 | exact G9 | exact (g.1 _).trans rfl) (Nat.le_of_ble_eq_true rfl) (Nat.le_of_ble_eq_true rfl) rfl ⟨Nat.le_of_ble_eq_true rfl, Nat.le_of_ble_eq_true rfl, Nat.le_of_ble_eq_true rfl, Nat.le_of_ble_eq_true rfl, Nat.le_of_ble_eq_true rfl⟩ rfl (c_take g1 (isS_P hS) hH hq3 c4 (by omega)) (fun v9 hD p9 => ?_)
        obtain ⟨SB, hq4, e1⟩ := p9
        subst e1
        replace eln : hD.2.1 (s + 9) i = hli a := (SB.2.2 _ _ (by unfold regP; omega)).trans eln
        replace S1 : Sm (fun a k => regP (s + 2) a k ∨ (a = s + 9 ∧ k = i)) h hD := S1.trans (SB.mono (fun a k z => Or.inl z))
        have g1 := S1.gg g
        obtain ⟨G1, G2, G8, G9, G10, G11, G12, G13, K0, K1, K2, K3, K4, K5, K6, S28, G21⟩ := g1.ly hS
        change RN 61 75 _ _ _ 0 0 _
        dsimp only [Option.toList, List.nil_append]
        refine r_return hm rfl rfl (Nat.le_of_ble_eq_true rfl) (Nat.le_of_ble_eq_true rfl) ?_
        exact ⟨S1, hq4, eln, rfl⟩
/-- lines of items below i, lines and pages of their pieces: class at s, reference -/
def LyC (h : Hp) (s : Nat) (x : Tx) (lt : LT) (i : Nat) (pp : Nat → Nat → Int) : Prop := (∀ q, q < i → h.2.1 (s + 9) q = lnc x lt q) ∧ ∀ q k, q < i → k < pcs x q → h.2.1 (s + 10) (fst x q + k) = (loi x lt q k : Int) ∧ h.2.1 (s + 11) (fst x q + k) = pp q k
def LyM (h : Hp) (x : Tx) (lt : LT) (i : Nat) (pp : Nat → Nat → Int) : Prop := (∀ q, q < i → h.2.1 1109 q = lnc x lt q) ∧ ∀ q k, q < i → k < pcs x q → h.2.1 1104 (20 * q + k) = (loi x lt q k : Int) ∧ h.2.1 1105 (20 * q + k) = pp q k
theorem LyC.step {h h2 : Hp} {S : Nat → Nat → Prop} {s : Nat} {x : Tx} {lt : LT} {i : Nat} {pp : Nat → Nat → Int} {f : Nat → Int} (y : LyC h s x lt i pp) (m : Sm S h h2) (hS : ∀ a k, S a k → (a = s + 9 → k = i) ∧ (a = s + 10 → fst x i ≤ k) ∧ (a = s + 11 → fst x i ≤ k)) (h1 : h2.2.1 (s + 9) i = lnc x lt i) (h3 : ∀ k, k < pcs x i → h2.2.1 (s + 10) (fst x i + k) = (loi x lt i k : Int) ∧ h2.2.1 (s + 11) (fst x i + k) = f k) : LyC h2 s x lt (i + 1) (upf pp i f) := by
  refine ⟨fun q hq => ?_, fun q k hq hk => ?_⟩
  · by_cases e : q = i
    · subst e; exact h1
    · rw [m.2.2 _ _ (fun z => e ((hS _ _ z).1 rfl))]; exact y.1 q (by omega)
  · by_cases e : q = i
    · subst e; rw [upf_eq]; exact h3 k hk
    · rw [upf_ne e]
      have f1 := fst_lt (x := x) (i := i) (q := q) (k := k) (by omega) hk
      rw [m.2.2 _ _ (fun z => by have := (hS _ _ z).2.1 rfl; omega), m.2.2 _ _ (fun z => by have := (hS _ _ z).2.2 rfl; omega)]
      exact y.2 q k (by omega) hk
theorem LyM.step {h h2 : Hp} {S : Nat → Nat → Prop} {x : Tx} {lt : LT} {i : Nat} {pp : Nat → Nat → Int} {f : Nat → Int} (hok : okTx x) (hi : i < x.1) (y : LyM h x lt i pp) (m : Sm S h h2) (hS : ∀ a k, S a k → (a = 1109 → k = i) ∧ (a = 1104 → 20 * i ≤ k) ∧ (a = 1105 → 20 * i ≤ k)) (h1 : h2.2.1 1109 i = lnc x lt i) (h3 : ∀ k, k < pcs x i → h2.2.1 1104 (20 * i + k) = (loi x lt i k : Int) ∧ h2.2.1 1105 (20 * i + k) = f k) : LyM h2 x lt (i + 1) (upf pp i f) := by
  refine ⟨fun q hq => ?_, fun q k hq hk => ?_⟩
  · by_cases e : q = i
    · subst e; exact h1
    · rw [m.2.2 _ _ (fun z => e ((hS _ _ z).1 rfl))]; exact y.1 q (by omega)
  · by_cases e : q = i
    · subst e; rw [upf_eq]; exact h3 k hk
    · rw [upf_ne e]
      have f1 := pcs_eq hok (i := q) (by omega)
      rw [m.2.2 _ _ (fun z => by have := (hS _ _ z).2.1 rfl; omega), m.2.2 _ _ (fun z => by have := (hS _ _ z).2.2 rfl; omega)]
      exact y.2 q k (by omega) hk
set_option maxRecDepth 8000 in
theorem c_layOut {L : Nat} {h : Hp} {s t : Nat} {x : Tx} {H : Int} {lt : LT} (g : GG L h) (C : CN h) (hS : isS s) (ht : isT t) (hR : RepC h t x) (hok : okTx x) (hl : okLt x lt) (hH : 8 ≤ H ∧ H ≤ 60) (hF : ∀ q, q < x.1 → h.2.1 (s + 8) q = (fst x q : Int)) (hLt : ∀ q k, q < x.1 → k < pcs x q → h.2.1 (s + 21) (fst x q + k) = lt q k) : RN 58 0 [some (.inr (.inr (some (s + 1)))), some (.inr (.inr (some (t)))), some (.inl H), some (.inr (.inr (some (s + 21)))), none, none] [] h 0 0 (fun v h2 => Sm (fun a _ => s + 2 ≤ a ∧ a ≤ s + 13 ∧ a ≠ s + 8) h h2 ∧ PgC h2 (s + 2) x H (psf x H lt) ∧ LyC h2 s x lt x.1 (ppf x H lt) ∧ v = none) := by
  have hm : mrec 58 = some nM58 := rfl
  have n60 := hok.1
  obtain ⟨G1, G2, G8, G9, G10, G11, G12, G13, K0, K1, K2, K3, K4, K5, K6, S28, G21⟩ := g.ly hS
  refine r_aload_n hm rfl (k := ?_)
  refine r_getR (hm := hm) (hf := rfl) (hd := rfl) (hs := (by first | assumption | exact I1 _ (by omega) | exact I2 _ (by omega) | exact I3 _ (by omega) | exact I4 _ (by omega))) (hv := (by first | assumption | exact I0 _ (by omega) | exact J0 _ (by omega) | exact J1 _ (by omega) | exact J2 _ (by omega) | exact F1 _ (by omega) | exact F2 _ (by omega) | exact F4 _ (by omega) | exact P0 _ _ (by omega) (by omega) | exact P1 _ _ (by omega) (by omega) | exact P2 _ _ (by omega) (by omega) | exact K0 | exact K1 | exact K2 | exact K5 | exact eF _ (by omega))) (k := ?_)
  refine r_iload_n hm rfl (k := ?_)
  refine r_callv (j2 := 59) hm rfl rfl rfl rfl rfl rfl (by first | assumption | exact I1 _ (by omega) | exact I2 _ (by omega) | exact I3 _ (by omega) | exact I4 _ (by omega)) (Nat.le_of_ble_eq_true rfl) (Nat.le_of_ble_eq_true rfl) rfl ⟨Nat.le_of_ble_eq_true rfl, Nat.le_of_ble_eq_true rfl, Nat.le_of_ble_eq_true rfl, Nat.le_of_ble_eq_true rfl, Nat.le_of_ble_eq_true rfl⟩ rfl (c_pgBegin (x := x) g (isS_P hS)) (fun v9 h9 p9 => ?_)
  obtain ⟨SA, hqA, e1⟩ := p9
  subst e1
  have S1 : Sm (fun a _ => s + 2 ≤ a ∧ a ≤ s + 13 ∧ a ≠ s + 8) h h9 := SA.mono (fun a k z => by unfold regP at z; omega)
  have g1 := S1.gg g
  change RN 58 8 _ _ _ 0 0 _
  dsimp only [Option.toList, List.nil_append]
  refine r_iconst hm rfl (k := ?_)
  refine r_istore hm rfl (k := ?_)
  suffices LP : ∀ (d i : Nat) (h1 : Hp) (z5 : Option Vl), i + d = x.1 → Sm (fun a _ => s + 2 ≤ a ∧ a ≤ s + 13 ∧ a ≠ s + 8) h h1 → PgC h1 (s + 2) x H (ly x H lt i).1 → LyC h1 s x lt i (ly x H lt i).2 → RN 58 11 [some (.inr (.inr (some (s + 1)))), some (.inr (.inr (some (t)))), some (.inl H), some (.inr (.inr (some (s + 21)))), some (.inl (i : Int)), z5] [] h1 0 0 (fun v h2 => Sm (fun a _ => s + 2 ≤ a ∧ a ≤ s + 13 ∧ a ≠ s + 8) h h2 ∧ PgC h2 (s + 2) x H (psf x H lt) ∧ LyC h2 s x lt x.1 (ppf x H lt) ∧ v = none) from LP x.1 0 _ none (by omega) S1 hqA ⟨fun q hq => absurd hq (Nat.not_lt_zero _), fun q k hq => absurd hq (Nat.not_lt_zero _)⟩
  clear S1 hqA SA G1 G2 G8 G9 G10 G11 G12 G13 K0 K1 K2 K3 K4 K5 K6
  refine fun d => Nat.strongRecOn d (fun d ih => ?_)
  intro i h1 z5 hi S1 hq hy
  have g1 := S1.gg g
  obtain ⟨G1, G2, G8, G9, G10, G11, G12, G13, K0, K1, K2, K3, K4, K5, K6, S28, G21⟩ := g1.ly hS
  obtain ⟨T1, T2, T3, T4, T5, T6, T7⟩ := g1.tx ht
  have hR1 := S1.repC (fun a k q9 => isS_T hS ht (a := a) (by omega) (by omega)) hR
  have C1 := S1.cn (fun a k z => by omega) C
  obtain ⟨I0, I1, I2, I3, I4, J0, J1, J2, F0, F1, F2, F3, F4, P0, P1, P2⟩ := hR1.use g1 ht
  obtain ⟨R1, R2, R3, R4, R5, R6, R7⟩ := id hR1
  have eit := S1.itm t
  simp only [S1.itm] at I0 I1 I2 I3 I4 J0 J1 J2 F0 F1 F2 F3 F4 P0 P1 P2
  have eF := fun q hq => (S1.2.2 (s + 8) q (by omega)).trans (hF q hq)
  have eLt := fun q k hq hk => (S1.2.2 (s + 21) (fst x q + k) (by omega)).trans (hLt q k hq hk)
  obtain ⟨ok, -⟩ := ly_ok hok hl hH i (by omega)
  refine r_iload hm rfl (k := ?_)
  refine r_aload_n hm rfl (k := ?_)
  refine r_getI (hm := hm) (hf := rfl) (hd := rfl) (hs := (by first | assumption | exact I1 _ (by omega) | exact I2 _ (by omega) | exact I3 _ (by omega) | exact I4 _ (by omega))) (hv := (by first | assumption | exact I0 _ (by omega) | exact J0 _ (by omega) | exact J1 _ (by omega) | exact J2 _ (by omega) | exact F1 _ (by omega) | exact F2 _ (by omega) | exact F4 _ (by omega) | exact P0 _ _ (by omega) (by omega) | exact P1 _ _ (by omega) (by omega) | exact P2 _ _ (by omega) (by omega) | exact K0 | exact K1 | exact K2 | exact K5 | exact eF _ (by omega))) (k := ?_)
  refine r_icmp_ge (t := 190) hm rfl rfl (fun c17 => ?_) (fun c17 => ?_)
  · refine r_aload_n hm rfl (k := ?_)
    refine r_getR (hm := hm) (hf := rfl) (hd := rfl) (hs := (by first | assumption | exact I1 _ (by omega) | exact I2 _ (by omega) | exact I3 _ (by omega) | exact I4 _ (by omega))) (hv := (by first | assumption | exact I0 _ (by omega) | exact J0 _ (by omega) | exact J1 _ (by omega) | exact J2 _ (by omega) | exact F1 _ (by omega) | exact F2 _ (by omega) | exact F4 _ (by omega) | exact P0 _ _ (by omega) (by omega) | exact P1 _ _ (by omega) (by omega) | exact P2 _ _ (by omega) (by omega) | exact K0 | exact K1 | exact K2 | exact K5 | exact eF _ (by omega))) (k := ?_)
    refine r_callv (j2 := 74) hm rfl rfl rfl rfl rfl rfl (by first | assumption | exact I1 _ (by omega) | exact I2 _ (by omega) | exact I3 _ (by omega) | exact I4 _ (by omega)) (Nat.le_of_ble_eq_true rfl) (Nat.le_of_ble_eq_true rfl) rfl ⟨Nat.le_of_ble_eq_true rfl, Nat.le_of_ble_eq_true rfl, Nat.le_of_ble_eq_true rfl, Nat.le_of_ble_eq_true rfl, Nat.le_of_ble_eq_true rfl⟩ rfl (c_setAllThatWait g1 (isS_P hS) hH hq ok (TT_le hok (by omega)) (by omega)) (fun v9 hB p9 => ?_)
    obtain ⟨SB, hqB, e1⟩ := p9
    subst e1
    have SC : Sm (fun a _ => s + 2 ≤ a ∧ a ≤ s + 13 ∧ a ≠ s + 8) h hB := S1.trans (SB.mono (fun a k z => by unfold regP at z; omega))
    change RN 58 197 _ _ _ 0 0 _
    dsimp only [Option.toList, List.nil_append]
    refine r_return hm rfl rfl (Nat.le_of_ble_eq_true rfl) (Nat.le_of_ble_eq_true rfl) ?_
    have ei : i = x.1 := by omega
    subst ei
    refine ⟨SC, hqB, ⟨fun q hq9 => ?_, fun q k hq9 hk => ?_⟩, rfl⟩
    · rw [SB.2.2 _ _ (by unfold regP; omega)]; exact hy.1 q hq9
    · rw [SB.2.2 _ _ (by unfold regP; omega), SB.2.2 _ _ (by unfold regP; omega)]; exact hy.2 q k hq9 hk
  · have hi2 : i < x.1 := by omega
    have hit := hok.2.1 i hi2
    unfold okIt at hit
    obtain ⟨ep, ep2⟩ := pcs_eq hok hi2
    have hTi := TT_le hok (i := i) (by omega)
    have hTj : TT x i + cap x i ≤ 1200 := TT_le hok (i := i + 1) (by omega)
    have hf := fst_le hok (i + 1) (by omega)
    have hf2 : fst x (i + 1) = fst x i + pcs x i := rfl
    have hIt := itm_S hS ht hR (i := i) (by omega)
    refine r_aload_n hm rfl (k := ?_)
    refine r_getR (hm := hm) (hf := rfl) (hd := rfl) (hs := (by first | assumption | exact I1 _ (by omega) | exact I2 _ (by omega) | exact I3 _ (by omega) | exact I4 _ (by omega))) (hv := (by first | assumption | exact I0 _ (by omega) | exact J0 _ (by omega) | exact J1 _ (by omega) | exact J2 _ (by omega) | exact F1 _ (by omega) | exact F2 _ (by omega) | exact F4 _ (by omega) | exact P0 _ _ (by omega) (by omega) | exact P1 _ _ (by omega) (by omega) | exact P2 _ _ (by omega) (by omega) | exact K0 | exact K1 | exact K2 | exact K5 | exact eF _ (by omega))) (k := ?_)
    refine r_iload hm rfl (k := ?_)
    refine r_aald (hm := hm) (hf := rfl) (hs := (by first | assumption | exact I1 _ (by omega) | exact I2 _ (by omega) | exact I3 _ (by omega) | exact I4 _ (by omega))) (hkd := by decide) (hi := rfl) (hn := (by omega)) (hv := (by first | assumption | exact I0 _ (by omega) | exact J0 _ (by omega) | exact J1 _ (by omega) | exact J2 _ (by omega) | exact F1 _ (by omega) | exact F2 _ (by omega) | exact F4 _ (by omega) | exact P0 _ _ (by omega) (by omega) | exact P1 _ _ (by omega) (by omega) | exact P2 _ _ (by omega) (by omega) | exact K0 | exact K1 | exact K2 | exact K5 | exact eF _ (by omega))) (k := ?_)
    refine r_astore hm rfl (k := ?_)
    refine r_aload hm rfl (k := ?_)
    refine r_getI (hm := hm) (hf := rfl) (hd := rfl) (hs := (by first | assumption | exact I1 _ (by omega) | exact I2 _ (by omega) | exact I3 _ (by omega) | exact I4 _ (by omega))) (hv := (by first | assumption | exact I0 _ (by omega) | exact J0 _ (by omega) | exact J1 _ (by omega) | exact J2 _ (by omega) | exact F1 _ (by omega) | exact F2 _ (by omega) | exact F4 _ (by omega) | exact P0 _ _ (by omega) (by omega) | exact P1 _ _ (by omega) (by omega) | exact P2 _ _ (by omega) (by omega) | exact K0 | exact K1 | exact K2 | exact K5 | exact eF _ (by omega))) (k := ?_)
    refine r_if_ne (t := 58) hm rfl rfl (fun c34 => ?_) (fun c34 => ?_)
    · refine r_aload hm rfl (k := ?_)
      refine r_getI (hm := hm) (hf := rfl) (hd := rfl) (hs := (by first | assumption | exact I1 _ (by omega) | exact I2 _ (by omega) | exact I3 _ (by omega) | exact I4 _ (by omega))) (hv := (by first | assumption | exact I0 _ (by omega) | exact J0 _ (by omega) | exact J1 _ (by omega) | exact J2 _ (by omega) | exact F1 _ (by omega) | exact F2 _ (by omega) | exact F4 _ (by omega) | exact P0 _ _ (by omega) (by omega) | exact P1 _ _ (by omega) (by omega) | exact P2 _ _ (by omega) (by omega) | exact K0 | exact K1 | exact K2 | exact K5 | exact eF _ (by omega))) (k := ?_)
      refine r_iconst hm rfl (k := ?_)
      refine r_icmp_ne (t := 120) hm rfl rfl (fun c64 => ?_) (fun c64 => ?_)
      · have qFl := c_floats g1 ht hR1 (i := i) hi2
        rw [eit] at qFl
        refine r_aload hm rfl (k := ?_)
        refine r_callv (j2 := 46) hm rfl rfl rfl rfl rfl rfl (by first | assumption | exact I1 _ (by omega) | exact I2 _ (by omega) | exact I3 _ (by omega) | exact I4 _ (by omega)) (Nat.le_of_ble_eq_true rfl) (Nat.le_of_ble_eq_true rfl) rfl ⟨Nat.le_of_ble_eq_true rfl, Nat.le_of_ble_eq_true rfl, Nat.le_of_ble_eq_true rfl, Nat.le_of_ble_eq_true rfl, Nat.le_of_ble_eq_true rfl⟩ rfl (qFl) (fun v9 h9 p9 => ?_)
        obtain ⟨e1, e2⟩ := p9
        subst e2
        replace e1 := e1.symm
        subst e1
        change RN 58 125 _ _ _ 0 0 _
        dsimp only [Option.toList, List.cons_append, List.nil_append]
        refine r_if_eq (t := 157) hm rfl rfl (fun c125 => ?_) (fun c125 => ?_)
        · have kf : ¬ (x.2.1 1 i = 2 ∨ x.2.1 1 i = 3) := fun z => by rw [if_pos z] at c125; omega
          have qCl := c_countListed g1 ht hR1 (i := i) hi2
          rw [eit, ← cli_eq] at qCl
          refine r_aload_n hm rfl (k := ?_)
          refine r_getR (hm := hm) (hf := rfl) (hd := rfl) (hs := (by first | assumption | exact I1 _ (by omega) | exact I2 _ (by omega) | exact I3 _ (by omega) | exact I4 _ (by omega))) (hv := (by first | assumption | exact I0 _ (by omega) | exact J0 _ (by omega) | exact J1 _ (by omega) | exact J2 _ (by omega) | exact F1 _ (by omega) | exact F2 _ (by omega) | exact F4 _ (by omega) | exact P0 _ _ (by omega) (by omega) | exact P1 _ _ (by omega) (by omega) | exact P2 _ _ (by omega) (by omega) | exact K0 | exact K1 | exact K2 | exact K5 | exact eF _ (by omega))) (k := ?_)
          refine r_iload hm rfl (k := ?_)
          refine r_aload_n hm rfl (k := ?_)
          refine r_aload hm rfl (k := ?_)
          refine r_callv (j2 := 72) hm rfl rfl rfl rfl rfl rfl (by first | assumption | exact I1 _ (by omega) | exact I2 _ (by omega) | exact I3 _ (by omega) | exact I4 _ (by omega)) (Nat.le_of_ble_eq_true rfl) (Nat.le_of_ble_eq_true rfl) rfl ⟨Nat.le_of_ble_eq_true rfl, Nat.le_of_ble_eq_true rfl, Nat.le_of_ble_eq_true rfl, Nat.le_of_ble_eq_true rfl, Nat.le_of_ble_eq_true rfl⟩ rfl (qCl) (fun v9 h9 p9 => ?_)
          obtain ⟨e1, e2⟩ := p9
          subst e2
          replace e1 := e1.symm
          subst e1
          change RN 58 169 _ _ _ 0 0 _
          dsimp only [Option.toList, List.cons_append, List.nil_append]
          refine r_iast (hm := hm) (hf := rfl) (h28 := (by omega)) (hs := (by first | assumption | exact I1 _ (by omega) | exact I2 _ (by omega) | exact I3 _ (by omega) | exact I4 _ (by omega))) (hi := rfl) (hn := (by omega)) (k := ?_)
          refine RN.abs (fun h2 => Sm (fun a _ => s + 2 ≤ a ∧ a ≤ s + 13 ∧ a ≠ s + 8) h h2 ∧ Sm (fun a k => (a = s + 9 ∧ k = i)) h1 h2 ∧ PgC h2 (s + 2) x H (ly x H lt i).1 ∧ h2.2.1 (s + 9) i = (cli x i : Int)) ⟨Sm.put S1 (by omega), Sm.put Sm.refl (by omega), hq.same (Sm.put (S := fun a k => a = s + 9) Sm.refl (by omega)) (fun a k z => by omega), putI_eq⟩ (fun hD H9 => ?_)
          obtain ⟨SD, SD9, hqD, elD⟩ := H9
          have g1 := SD.gg g
          obtain ⟨G1, G2, G8, G9, G10, G11, G12, G13, K0, K1, K2, K3, K4, K5, K6, S28, G21⟩ := g1.ly hS
          obtain ⟨T1, T2, T3, T4, T5, T6, T7⟩ := g1.tx ht
          have hR1 := SD.repC (fun a k q9 => isS_T hS ht (a := a) (by omega) (by omega)) hR
          have C1 := SD.cn (fun a k z => by omega) C
          obtain ⟨I0, I1, I2, I3, I4, J0, J1, J2, F0, F1, F2, F3, F4, P0, P1, P2⟩ := hR1.use g1 ht
          obtain ⟨R1, R2, R3, R4, R5, R6, R7⟩ := id hR1
          have eit := SD.itm t
          simp only [SD.itm] at I0 I1 I2 I3 I4 J0 J1 J2 F0 F1 F2 F3 F4 P0 P1 P2
          have eF := fun q hq => (SD.2.2 (s + 8) q (by omega)).trans (hF q hq)
          have eLt := fun q k hq hk => (SD.2.2 (s + 21) (fst x q + k) (by omega)).trans (hLt q k hq hk)
          refine r_aload_n hm rfl (k := ?_)
          refine r_getR (hm := hm) (hf := rfl) (hd := rfl) (hs := (by first | assumption | exact I1 _ (by omega) | exact I2 _ (by omega) | exact I3 _ (by omega) | exact I4 _ (by omega))) (hv := (by first | assumption | exact I0 _ (by omega) | exact J0 _ (by omega) | exact J1 _ (by omega) | exact J2 _ (by omega) | exact F1 _ (by omega) | exact F2 _ (by omega) | exact F4 _ (by omega) | exact P0 _ _ (by omega) (by omega) | exact P1 _ _ (by omega) (by omega) | exact P2 _ _ (by omega) (by omega) | exact K0 | exact K1 | exact K2 | exact K5 | exact eF _ (by omega))) (k := ?_)
          refine r_iconst hm rfl (k := ?_)
          refine r_calls (j2 := 5) hm rfl rfl rfl rfl rfl rfl (Nat.le_of_ble_eq_true rfl) (Nat.le_of_ble_eq_true rfl) rfl ⟨Nat.le_of_ble_eq_true rfl, Nat.le_of_ble_eq_true rfl, Nat.le_of_ble_eq_true rfl, Nat.le_of_ble_eq_true rfl, Nat.le_of_ble_eq_true rfl⟩ rfl (j_fill (n := 60) G12 (by omega) (by omega)) (fun v9 h9 p9 => ?_)
          obtain ⟨e1, e2⟩ := p9
          subst e2
          subst e1
          have SD2 : Sm (fun a _ => s + 2 ≤ a ∧ a ≤ s + 13 ∧ a ≠ s + 8) h (filI hD (s + 12) 0 60 1) := Sm.fil SD (fun k _ _ => by omega)
          have capE : cap x i = cli x i := by unfold cap; rw [if_neg (by omega), if_pos (by omega)]
          have cl60 : cli x i ≤ 60 := by have := sm_le (f := fun q => if lstB x i q = true then (1 : Int) else 0) (B := 1) (fun k => by split <;> omega) x.1 0; have := cli_eq (x := x) (i := i); omega
          have qL := c_layLines (SD2.gg g) hS hH (hqD.same (Sm.fil (S := fun a k => a = s + 12) Sm.refl (fun k _ _ => rfl)) (fun a k z => by omega)) ok (nl := cli x i) (nd := fun _ => 1) (by omega) (by omega) (by omega) (fun _ => ⟨Int.le_refl _, (by decide : (1 : Int) ≤ 101)⟩) ((filI_ne (by omega)).trans elD) (fun l hl9 => filI_eq (by omega))
          have g1 := SD2.gg g
          obtain ⟨G1, G2, G8, G9, G10, G11, G12, G13, K0, K1, K2, K3, K4, K5, K6, S28, G21⟩ := g1.ly hS
          obtain ⟨T1, T2, T3, T4, T5, T6, T7⟩ := g1.tx ht
          have hR1 := SD2.repC (fun a k q9 => isS_T hS ht (a := a) (by omega) (by omega)) hR
          have C1 := SD2.cn (fun a k z => by omega) C
          obtain ⟨I0, I1, I2, I3, I4, J0, J1, J2, F0, F1, F2, F3, F4, P0, P1, P2⟩ := hR1.use g1 ht
          obtain ⟨R1, R2, R3, R4, R5, R6, R7⟩ := id hR1
          have eit := SD2.itm t
          simp only [SD2.itm] at I0 I1 I2 I3 I4 J0 J1 J2 F0 F1 F2 F3 F4 P0 P1 P2
          have eF := fun q hq => (SD2.2.2 (s + 8) q (by omega)).trans (hF q hq)
          have eLt := fun q k hq hk => (SD2.2.2 (s + 21) (fst x q + k) (by omega)).trans (hLt q k hq hk)
          change RN 58 178 _ _ _ 0 0 _
          dsimp only [Option.toList, List.nil_append]
          refine r_aload_n hm rfl (k := ?_)
          refine r_iload hm rfl (k := ?_)
          refine r_callv (j2 := 69) hm rfl rfl rfl rfl rfl rfl (by first | assumption | exact I1 _ (by omega) | exact I2 _ (by omega) | exact I3 _ (by omega) | exact I4 _ (by omega)) (Nat.le_of_ble_eq_true rfl) (Nat.le_of_ble_eq_true rfl) rfl ⟨Nat.le_of_ble_eq_true rfl, Nat.le_of_ble_eq_true rfl, Nat.le_of_ble_eq_true rfl, Nat.le_of_ble_eq_true rfl, Nat.le_of_ble_eq_true rfl⟩ rfl (qL) (fun v9 hE p9 => ?_)
          obtain ⟨SE, hqE, lpE, e1⟩ := p9
          subst e1
          have SF : Sm (fun a _ => s + 2 ≤ a ∧ a ≤ s + 13 ∧ a ≠ s + 8) h hE := SD2.trans (SE.mono (fun a k z => by unfold regP at z; omega))
          have SE9 : Sm (fun a k => (a = s + 9 ∧ k = i) ∨ a = s + 12 ∨ (s + 2 ≤ a ∧ a ≤ s + 7) ∨ a = s + 13) h1 hE := (Sm.fil (SD9.mono (fun a k z => by omega)) (fun k _ _ => by omega)).trans (SE.mono (fun a k z => by unfold regP at z; omega))
          have elE : hE.2.1 (s + 9) i = (cli x i : Int) := (SE.2.2 _ _ (by unfold regP; omega)).trans ((filI_ne (by omega)).trans elD)
          change RN 58 184 _ _ _ 0 0 _
          dsimp only [Option.toList, List.nil_append]
          refine r_iinc hm rfl (hr := (by omega)) (k := ?_)
          refine r_goto (t := 11) hm rfl (k := ?_)
          have eI : iS x H lt i (ly x H lt i).1 = ((lls x H i (cli x i) (fun _ => 1) (ly x H lt i).1).1, fun _ => 0) := by
            unfold iS
            rw [if_neg (show ¬ x.2.1 1 i = 0 by omega), if_neg (show ¬ x.2.1 1 i = 1 by omega), if_neg (show ¬ (x.2.1 1 i = 2 ∨ x.2.1 1 i = 3) by omega)]
          have eN : lnc x lt i = (cli x i : Int) := by
            unfold lnc
            rw [if_neg (show ¬ x.2.1 1 i = 0 by omega), if_neg (show ¬ x.2.1 1 i = 1 by omega), if_neg (show ¬ (x.2.1 1 i = 2 ∨ x.2.1 1 i = 3) by omega)]
          refine ih (d - 1) (by omega) (i + 1) _ _ (by omega) SF ?_ (hy.step SE9 (fun a k z => by first | omega | (unfold regP at z; omega)) (by rw [eN]; exact elE) (fun k hk => by omega))
          show PgC _ (s + 2) x H (iS x H lt i (ly x H lt i).1).1
          rw [eI]
          exact hqE
        · have kf : x.2.1 1 i = 2 ∨ x.2.1 1 i = 3 := Decidable.byContradiction (fun z => c125 (if_neg z))
          refine r_aload_n hm rfl (k := ?_)
          refine r_getR (hm := hm) (hf := rfl) (hd := rfl) (hs := (by first | assumption | exact I1 _ (by omega) | exact I2 _ (by omega) | exact I3 _ (by omega) | exact I4 _ (by omega))) (hv := (by first | assumption | exact I0 _ (by omega) | exact J0 _ (by omega) | exact J1 _ (by omega) | exact J2 _ (by omega) | exact F1 _ (by omega) | exact F2 _ (by omega) | exact F4 _ (by omega) | exact P0 _ _ (by omega) (by omega) | exact P1 _ _ (by omega) (by omega) | exact P2 _ _ (by omega) (by omega) | exact K0 | exact K1 | exact K2 | exact K5 | exact eF _ (by omega))) (k := ?_)
          refine r_iload hm rfl (k := ?_)
          refine r_aload hm rfl (k := ?_)
          refine r_getI (hm := hm) (hf := rfl) (hd := rfl) (hs := (by first | assumption | exact I1 _ (by omega) | exact I2 _ (by omega) | exact I3 _ (by omega) | exact I4 _ (by omega))) (hv := (by first | assumption | exact I0 _ (by omega) | exact J0 _ (by omega) | exact J1 _ (by omega) | exact J2 _ (by omega) | exact F1 _ (by omega) | exact F2 _ (by omega) | exact F4 _ (by omega) | exact P0 _ _ (by omega) (by omega) | exact P1 _ _ (by omega) (by omega) | exact P2 _ _ (by omega) (by omega) | exact K0 | exact K1 | exact K2 | exact K5 | exact eF _ (by omega))) (k := ?_)
          refine r_iast (hm := hm) (hf := rfl) (h28 := (by omega)) (hs := (by first | assumption | exact I1 _ (by omega) | exact I2 _ (by omega) | exact I3 _ (by omega) | exact I4 _ (by omega))) (hi := rfl) (hn := (by omega)) (k := ?_)
          refine RN.abs (fun h2 => Sm (fun a _ => s + 2 ≤ a ∧ a ≤ s + 13 ∧ a ≠ s + 8) h h2 ∧ Sm (fun a k => (a = s + 9 ∧ k = i)) h1 h2 ∧ PgC h2 (s + 2) x H (ly x H lt i).1 ∧ h2.2.1 (s + 9) i = x.2.1 2 i) ⟨Sm.put S1 (by omega), Sm.put Sm.refl (by omega), hq.same (Sm.put (S := fun a k => a = s + 9) Sm.refl (by omega)) (fun a k z => by omega), putI_eq⟩ (fun hD H9 => ?_)
          obtain ⟨SD, SD9, hqD, elD⟩ := H9
          have g1 := SD.gg g
          obtain ⟨G1, G2, G8, G9, G10, G11, G12, G13, K0, K1, K2, K3, K4, K5, K6, S28, G21⟩ := g1.ly hS
          obtain ⟨T1, T2, T3, T4, T5, T6, T7⟩ := g1.tx ht
          have hR1 := SD.repC (fun a k q9 => isS_T hS ht (a := a) (by omega) (by omega)) hR
          have C1 := SD.cn (fun a k z => by omega) C
          obtain ⟨I0, I1, I2, I3, I4, J0, J1, J2, F0, F1, F2, F3, F4, P0, P1, P2⟩ := hR1.use g1 ht
          obtain ⟨R1, R2, R3, R4, R5, R6, R7⟩ := id hR1
          have eit := SD.itm t
          simp only [SD.itm] at I0 I1 I2 I3 I4 J0 J1 J2 F0 F1 F2 F3 F4 P0 P1 P2
          have eF := fun q hq => (SD.2.2 (s + 8) q (by omega)).trans (hF q hq)
          have eLt := fun q k hq hk => (SD.2.2 (s + 21) (fst x q + k) (by omega)).trans (hLt q k hq hk)
          have wt60 := ok.1.2.2.2.2.2.1
          have qW := c_setOrWait g1 (isS_P hS) hH hqD (ok.rng hTi) (i := i) (n := x.2.1 2 i) (by omega) (by omega) rfl (by omega)
          refine r_aload_n hm rfl (k := ?_)
          refine r_getR (hm := hm) (hf := rfl) (hd := rfl) (hs := (by first | assumption | exact I1 _ (by omega) | exact I2 _ (by omega) | exact I3 _ (by omega) | exact I4 _ (by omega))) (hv := (by first | assumption | exact I0 _ (by omega) | exact J0 _ (by omega) | exact J1 _ (by omega) | exact J2 _ (by omega) | exact F1 _ (by omega) | exact F2 _ (by omega) | exact F4 _ (by omega) | exact P0 _ _ (by omega) (by omega) | exact P1 _ _ (by omega) (by omega) | exact P2 _ _ (by omega) (by omega) | exact K0 | exact K1 | exact K2 | exact K5 | exact eF _ (by omega))) (k := ?_)
          refine r_iload hm rfl (k := ?_)
          refine r_aload hm rfl (k := ?_)
          refine r_getI (hm := hm) (hf := rfl) (hd := rfl) (hs := (by first | assumption | exact I1 _ (by omega) | exact I2 _ (by omega) | exact I3 _ (by omega) | exact I4 _ (by omega))) (hv := (by first | assumption | exact I0 _ (by omega) | exact J0 _ (by omega) | exact J1 _ (by omega) | exact J2 _ (by omega) | exact F1 _ (by omega) | exact F2 _ (by omega) | exact F4 _ (by omega) | exact P0 _ _ (by omega) (by omega) | exact P1 _ _ (by omega) (by omega) | exact P2 _ _ (by omega) (by omega) | exact K0 | exact K1 | exact K2 | exact K5 | exact eF _ (by omega))) (k := ?_)
          refine r_callv (j2 := 71) hm rfl rfl rfl rfl rfl rfl (by first | assumption | exact I1 _ (by omega) | exact I2 _ (by omega) | exact I3 _ (by omega) | exact I4 _ (by omega)) (Nat.le_of_ble_eq_true rfl) (Nat.le_of_ble_eq_true rfl) rfl ⟨Nat.le_of_ble_eq_true rfl, Nat.le_of_ble_eq_true rfl, Nat.le_of_ble_eq_true rfl, Nat.le_of_ble_eq_true rfl, Nat.le_of_ble_eq_true rfl⟩ rfl (qW) (fun v9 hE p9 => ?_)
          obtain ⟨SE, hqE, e1⟩ := p9
          subst e1
          have SF : Sm (fun a _ => s + 2 ≤ a ∧ a ≤ s + 13 ∧ a ≠ s + 8) h hE := SD.trans (SE.mono (fun a k z => by unfold regP at z; omega))
          have SE9 : Sm (fun a k => (a = s + 9 ∧ k = i) ∨ regP (s + 2) a k) h1 hE := (SD9.mono (fun a k z => by omega)).trans (SE.mono (fun a k z => Or.inr z))
          have elE : hE.2.1 (s + 9) i = x.2.1 2 i := (SE.2.2 _ _ (by unfold regP; omega)).trans elD
          change RN 58 154 _ _ _ 0 0 _
          dsimp only [Option.toList, List.nil_append]
          refine r_goto (t := 184) hm rfl (k := ?_)
          refine r_iinc hm rfl (hr := (by omega)) (k := ?_)
          refine r_goto (t := 11) hm rfl (k := ?_)
          have eI : iS x H lt i (ly x H lt i).1 = (if ((ly x H lt i).1).2.2.2.2.1 = ((ly x H lt i).1).2.2.2.2.2.1 ∧ ((ly x H lt i).1).2.1 ((ly x H lt i).1).1 + x.2.1 2 i ≤ H then tk (se (sf (ly x H lt i).1 i) i) (x.2.1 2 i) else wa (ly x H lt i).1 i, fun _ => 0) := by
            unfold iS
            rw [if_neg (show ¬ x.2.1 1 i = 0 by omega), if_neg (show ¬ x.2.1 1 i = 1 by omega), if_pos (show x.2.1 1 i = 2 ∨ x.2.1 1 i = 3 by omega)]
          have eN : lnc x lt i = x.2.1 2 i := by
            unfold lnc
            rw [if_neg (show ¬ x.2.1 1 i = 0 by omega), if_neg (show ¬ x.2.1 1 i = 1 by omega), if_pos (show x.2.1 1 i = 2 ∨ x.2.1 1 i = 3 by omega)]
          refine ih (d - 1) (by omega) (i + 1) _ _ (by omega) SF ?_ (hy.step SE9 (fun a k z => by first | omega | (unfold regP at z; omega)) (by rw [eN]; exact elE) (fun k hk => by omega))
          show PgC _ (s + 2) x H (iS x H lt i (ly x H lt i).1).1
          rw [eI]
          exact hqE
      · have qB := c_breakLines g1 hS ht hR1 hok hl hi2 (fun k hk => eLt i k hi2 hk)
        rw [eit] at qB
        refine r_aload_n hm rfl (k := ?_)
        refine r_getR (hm := hm) (hf := rfl) (hd := rfl) (hs := (by first | assumption | exact I1 _ (by omega) | exact I2 _ (by omega) | exact I3 _ (by omega) | exact I4 _ (by omega))) (hv := (by first | assumption | exact I0 _ (by omega) | exact J0 _ (by omega) | exact J1 _ (by omega) | exact J2 _ (by omega) | exact F1 _ (by omega) | exact F2 _ (by omega) | exact F4 _ (by omega) | exact P0 _ _ (by omega) (by omega) | exact P1 _ _ (by omega) (by omega) | exact P2 _ _ (by omega) (by omega) | exact K0 | exact K1 | exact K2 | exact K5 | exact eF _ (by omega))) (k := ?_)
        refine r_iload hm rfl (k := ?_)
        refine r_aload_n hm rfl (k := ?_)
        refine r_aload hm rfl (k := ?_)
        refine r_aload_n hm rfl (k := ?_)
        refine r_getR (hm := hm) (hf := rfl) (hd := rfl) (hs := (by first | assumption | exact I1 _ (by omega) | exact I2 _ (by omega) | exact I3 _ (by omega) | exact I4 _ (by omega))) (hv := (by first | assumption | exact I0 _ (by omega) | exact J0 _ (by omega) | exact J1 _ (by omega) | exact J2 _ (by omega) | exact F1 _ (by omega) | exact F2 _ (by omega) | exact F4 _ (by omega) | exact P0 _ _ (by omega) (by omega) | exact P1 _ _ (by omega) (by omega) | exact P2 _ _ (by omega) (by omega) | exact K0 | exact K1 | exact K2 | exact K5 | exact eF _ (by omega))) (k := ?_)
        refine r_iload hm rfl (k := ?_)
        refine r_iald (hm := hm) (hf := rfl) (hs := (by first | assumption | exact I1 _ (by omega) | exact I2 _ (by omega) | exact I3 _ (by omega) | exact I4 _ (by omega))) (hi := rfl) (hn := (by omega)) (hv := (by first | assumption | exact I0 _ (by omega) | exact J0 _ (by omega) | exact J1 _ (by omega) | exact J2 _ (by omega) | exact F1 _ (by omega) | exact F2 _ (by omega) | exact F4 _ (by omega) | exact P0 _ _ (by omega) (by omega) | exact P1 _ _ (by omega) (by omega) | exact P2 _ _ (by omega) (by omega) | exact K0 | exact K1 | exact K2 | exact K5 | exact eF _ (by omega))) (k := ?_)
        refine r_aload_n hm rfl (k := ?_)
        refine r_aload_n hm rfl (k := ?_)
        refine r_getR (hm := hm) (hf := rfl) (hd := rfl) (hs := (by first | assumption | exact I1 _ (by omega) | exact I2 _ (by omega) | exact I3 _ (by omega) | exact I4 _ (by omega))) (hv := (by first | assumption | exact I0 _ (by omega) | exact J0 _ (by omega) | exact J1 _ (by omega) | exact J2 _ (by omega) | exact F1 _ (by omega) | exact F2 _ (by omega) | exact F4 _ (by omega) | exact P0 _ _ (by omega) (by omega) | exact P1 _ _ (by omega) (by omega) | exact P2 _ _ (by omega) (by omega) | exact K0 | exact K1 | exact K2 | exact K5 | exact eF _ (by omega))) (k := ?_)
        refine r_callv (j2 := 67) hm rfl rfl rfl rfl rfl rfl (by first | assumption | exact I1 _ (by omega) | exact I2 _ (by omega) | exact I3 _ (by omega) | exact I4 _ (by omega)) (Nat.le_of_ble_eq_true rfl) (Nat.le_of_ble_eq_true rfl) rfl ⟨Nat.le_of_ble_eq_true rfl, Nat.le_of_ble_eq_true rfl, Nat.le_of_ble_eq_true rfl, Nat.le_of_ble_eq_true rfl, Nat.le_of_ble_eq_true rfl⟩ rfl (c_width (s := t + 2) T3 T4 T7) (fun v9 h9 p9 => ?_)
        obtain ⟨e1, e2⟩ := p9
        subst e2
        replace e1 := e1.symm
        subst e1
        rw [R7 1 (by omega)]
        change RN 58 91 _ _ _ 0 0 _
        dsimp only [Option.toList, List.cons_append, List.nil_append]
        refine r_callv (j2 := 68) hm rfl rfl rfl rfl rfl rfl (by first | assumption | exact I1 _ (by omega) | exact I2 _ (by omega) | exact I3 _ (by omega) | exact I4 _ (by omega)) (Nat.le_of_ble_eq_true rfl) (Nat.le_of_ble_eq_true rfl) rfl ⟨Nat.le_of_ble_eq_true rfl, Nat.le_of_ble_eq_true rfl, Nat.le_of_ble_eq_true rfl, Nat.le_of_ble_eq_true rfl, Nat.le_of_ble_eq_true rfl⟩ rfl (qB) (fun v9 hB p9 => ?_)
        obtain ⟨SB, nB, loB, e1⟩ := p9
        subst e1
        obtain ⟨nl1, nl2, nl3⟩ := nli_le hok hl hi2
        have SC : Sm (fun a _ => s + 2 ≤ a ∧ a ≤ s + 13 ∧ a ≠ s + 8) h hB := S1.trans (SB.mono (fun a k z => by omega))
        have g1 := SC.gg g
        obtain ⟨G1, G2, G8, G9, G10, G11, G12, G13, K0, K1, K2, K3, K4, K5, K6, S28, G21⟩ := g1.ly hS
        obtain ⟨T1, T2, T3, T4, T5, T6, T7⟩ := g1.tx ht
        have hR1 := SC.repC (fun a k q9 => isS_T hS ht (a := a) (by omega) (by omega)) hR
        have C1 := SC.cn (fun a k z => by omega) C
        obtain ⟨I0, I1, I2, I3, I4, J0, J1, J2, F0, F1, F2, F3, F4, P0, P1, P2⟩ := hR1.use g1 ht
        obtain ⟨R1, R2, R3, R4, R5, R6, R7⟩ := id hR1
        have eit := SC.itm t
        simp only [SC.itm] at I0 I1 I2 I3 I4 J0 J1 J2 F0 F1 F2 F3 F4 P0 P1 P2
        have eF := fun q hq => (SC.2.2 (s + 8) q (by omega)).trans (hF q hq)
        have eLt := fun q k hq hk => (SC.2.2 (s + 21) (fst x q + k) (by omega)).trans (hLt q k hq hk)
        change RN 58 94 _ _ _ 0 0 _
        dsimp only [Option.toList, List.cons_append, List.nil_append]
        refine r_iast (hm := hm) (hf := rfl) (h28 := (by omega)) (hs := (by first | assumption | exact I1 _ (by omega) | exact I2 _ (by omega) | exact I3 _ (by omega) | exact I4 _ (by omega))) (hi := rfl) (hn := (by omega)) (k := ?_)
        refine RN.abs (fun h2 => Sm (fun a _ => s + 2 ≤ a ∧ a ≤ s + 13 ∧ a ≠ s + 8) h h2 ∧ Sm (fun a k => (a = s + 9 ∧ k = i) ∨ a = s + 12 ∨ (a = s + 10 ∧ fst x i ≤ k)) h1 h2 ∧ PgC h2 (s + 2) x H (ly x H lt i).1 ∧ (∀ l, l < nli x lt i → h2.2.1 (s + 12) l = ndi x lt i l) ∧ (∀ k, k < pcs x i → h2.2.1 (s + 10) (fst x i + k) = (loi x lt i k : Int)) ∧ h2.2.1 (s + 9) i = (nli x lt i : Int)) ⟨Sm.put SC (by omega), Sm.put (SB.mono (fun a k z => by omega)) (by omega), hq.same (Sm.put (S := fun a k => a = s + 9 ∨ a = s + 12 ∨ a = s + 10) (SB.mono (fun a k z => by omega)) (by omega)) (fun a k z => by omega), fun l hl9 => by rw [putI_ne (by omega)]; exact nB l hl9, fun k hk => by rw [putI_ne (by omega)]; exact loB k hk, putI_eq⟩ (fun hD H9 => ?_)
        obtain ⟨SD, SD9, hqD, nD, loD, elD⟩ := H9
        have g1 := SD.gg g
        obtain ⟨G1, G2, G8, G9, G10, G11, G12, G13, K0, K1, K2, K3, K4, K5, K6, S28, G21⟩ := g1.ly hS
        obtain ⟨T1, T2, T3, T4, T5, T6, T7⟩ := g1.tx ht
        have hR1 := SD.repC (fun a k q9 => isS_T hS ht (a := a) (by omega) (by omega)) hR
        have C1 := SD.cn (fun a k z => by omega) C
        obtain ⟨I0, I1, I2, I3, I4, J0, J1, J2, F0, F1, F2, F3, F4, P0, P1, P2⟩ := hR1.use g1 ht
        obtain ⟨R1, R2, R3, R4, R5, R6, R7⟩ := id hR1
        have eit := SD.itm t
        simp only [SD.itm] at I0 I1 I2 I3 I4 J0 J1 J2 F0 F1 F2 F3 F4 P0 P1 P2
        have eF := fun q hq => (SD.2.2 (s + 8) q (by omega)).trans (hF q hq)
        have eLt := fun q k hq hk => (SD.2.2 (s + 21) (fst x q + k) (by omega)).trans (hLt q k hq hk)
        have capE : cap x i = pcs x i := by unfold cap; rw [if_pos (by omega)]
        have qL := c_layLines g1 hS hH hqD ok (nl := nli x lt i) (nd := ndi x lt i) (by omega) (by omega) (by omega) nl2 elD nD
        refine r_aload_n hm rfl (k := ?_)
        refine r_iload hm rfl (k := ?_)
        refine r_callv (j2 := 69) hm rfl rfl rfl rfl rfl rfl (by first | assumption | exact I1 _ (by omega) | exact I2 _ (by omega) | exact I3 _ (by omega) | exact I4 _ (by omega)) (Nat.le_of_ble_eq_true rfl) (Nat.le_of_ble_eq_true rfl) rfl ⟨Nat.le_of_ble_eq_true rfl, Nat.le_of_ble_eq_true rfl, Nat.le_of_ble_eq_true rfl, Nat.le_of_ble_eq_true rfl, Nat.le_of_ble_eq_true rfl⟩ rfl (qL) (fun v9 hE p9 => ?_)
        obtain ⟨SE, hqE, lpE, e1⟩ := p9
        subst e1
        have SF : Sm (fun a _ => s + 2 ≤ a ∧ a ≤ s + 13 ∧ a ≠ s + 8) h hE := SD.trans (SE.mono (fun a k z => by unfold regP at z; omega))
        have SE9 : Sm (fun a k => (a = s + 9 ∧ k = i) ∨ a = s + 12 ∨ (a = s + 10 ∧ fst x i ≤ k) ∨ (s + 2 ≤ a ∧ a ≤ s + 7) ∨ a = s + 13 ∨ (a = s + 11 ∧ fst x i ≤ k)) h1 hE := (SD9.mono (fun a k z => by omega)).trans (SE.mono (fun a k z => by unfold regP at z; omega))
        have g1 := SF.gg g
        obtain ⟨G1, G2, G8, G9, G10, G11, G12, G13, K0, K1, K2, K3, K4, K5, K6, S28, G21⟩ := g1.ly hS
        obtain ⟨T1, T2, T3, T4, T5, T6, T7⟩ := g1.tx ht
        have hR1 := SF.repC (fun a k q9 => isS_T hS ht (a := a) (by omega) (by omega)) hR
        have C1 := SF.cn (fun a k z => by omega) C
        obtain ⟨I0, I1, I2, I3, I4, J0, J1, J2, F0, F1, F2, F3, F4, P0, P1, P2⟩ := hR1.use g1 ht
        obtain ⟨R1, R2, R3, R4, R5, R6, R7⟩ := id hR1
        have eit := SF.itm t
        simp only [SF.itm] at I0 I1 I2 I3 I4 J0 J1 J2 F0 F1 F2 F3 F4 P0 P1 P2
        have eF := fun q hq => (SF.2.2 (s + 8) q (by omega)).trans (hF q hq)
        have eLt := fun q k hq hk => (SF.2.2 (s + 21) (fst x q + k) (by omega)).trans (hLt q k hq hk)
        have elE : hE.2.1 (s + 9) i = (nli x lt i : Int) := (SE.2.2 _ _ (by unfold regP; omega)).trans elD
        have qSp := c_spreadPages g1 hS (F := fst x i) (n := pcs x i) (lo := loi x lt i) (f := fun k => (lls x H i (nli x lt i) (ndi x lt i) (ly x H lt i).1).2 (loi x lt i k)) (by omega) (fun k hk => ⟨(SE.2.2 _ _ (by unfold regP; omega)).trans (loD k hk), by have := nl3 k hk; omega, lpE _ (nl3 k hk)⟩)
        rw [ep] at qSp
        change RN 58 101 _ _ _ 0 0 _
        dsimp only [Option.toList, List.nil_append]
        refine r_aload_n hm rfl (k := ?_)
        refine r_aload_n hm rfl (k := ?_)
        refine r_getR (hm := hm) (hf := rfl) (hd := rfl) (hs := (by first | assumption | exact I1 _ (by omega) | exact I2 _ (by omega) | exact I3 _ (by omega) | exact I4 _ (by omega))) (hv := (by first | assumption | exact I0 _ (by omega) | exact J0 _ (by omega) | exact J1 _ (by omega) | exact J2 _ (by omega) | exact F1 _ (by omega) | exact F2 _ (by omega) | exact F4 _ (by omega) | exact P0 _ _ (by omega) (by omega) | exact P1 _ _ (by omega) (by omega) | exact P2 _ _ (by omega) (by omega) | exact K0 | exact K1 | exact K2 | exact K5 | exact eF _ (by omega))) (k := ?_)
        refine r_iload hm rfl (k := ?_)
        refine r_iald (hm := hm) (hf := rfl) (hs := (by first | assumption | exact I1 _ (by omega) | exact I2 _ (by omega) | exact I3 _ (by omega) | exact I4 _ (by omega))) (hi := rfl) (hn := (by omega)) (hv := (by first | assumption | exact I0 _ (by omega) | exact J0 _ (by omega) | exact J1 _ (by omega) | exact J2 _ (by omega) | exact F1 _ (by omega) | exact F2 _ (by omega) | exact F4 _ (by omega) | exact P0 _ _ (by omega) (by omega) | exact P1 _ _ (by omega) (by omega) | exact P2 _ _ (by omega) (by omega) | exact K0 | exact K1 | exact K2 | exact K5 | exact eF _ (by omega))) (k := ?_)
        refine r_aload hm rfl (k := ?_)
        refine r_getI (hm := hm) (hf := rfl) (hd := rfl) (hs := (by first | assumption | exact I1 _ (by omega) | exact I2 _ (by omega) | exact I3 _ (by omega) | exact I4 _ (by omega))) (hv := (by first | assumption | exact I0 _ (by omega) | exact J0 _ (by omega) | exact J1 _ (by omega) | exact J2 _ (by omega) | exact F1 _ (by omega) | exact F2 _ (by omega) | exact F4 _ (by omega) | exact P0 _ _ (by omega) (by omega) | exact P1 _ _ (by omega) (by omega) | exact P2 _ _ (by omega) (by omega) | exact K0 | exact K1 | exact K2 | exact K5 | exact eF _ (by omega))) (k := ?_)
        refine r_callv (j2 := 70) hm rfl rfl rfl rfl rfl rfl (by first | assumption | exact I1 _ (by omega) | exact I2 _ (by omega) | exact I3 _ (by omega) | exact I4 _ (by omega)) (Nat.le_of_ble_eq_true rfl) (Nat.le_of_ble_eq_true rfl) rfl ⟨Nat.le_of_ble_eq_true rfl, Nat.le_of_ble_eq_true rfl, Nat.le_of_ble_eq_true rfl, Nat.le_of_ble_eq_true rfl, Nat.le_of_ble_eq_true rfl⟩ rfl (qSp) (fun v9 hG p9 => ?_)
        obtain ⟨SG, ppG, e1⟩ := p9
        subst e1
        replace SF : Sm (fun a _ => s + 2 ≤ a ∧ a ≤ s + 13 ∧ a ≠ s + 8) h hG := SF.trans (SG.mono (fun a k z => by omega))
        replace SE9 := SE9.trans (SG.mono (fun a k z => by omega))
        replace hqE := hqE.same SG (fun a k z => by omega)
        replace elE : hG.2.1 (s + 9) i = (nli x lt i : Int) := (SG.2.2 _ _ (by omega)).trans elE
        have ppE : ∀ k, k < pcs x i → hG.2.1 (s + 10) (fst x i + k) = (loi x lt i k : Int) ∧ hG.2.1 (s + 11) (fst x i + k) = (lls x H i (nli x lt i) (ndi x lt i) (ly x H lt i).1).2 (loi x lt i k) := fun k hk => ⟨(SG.2.2 _ _ (by omega)).trans ((SE.2.2 _ _ (by unfold regP; omega)).trans (loD k hk)), ppG k hk⟩
        change RN 58 117 _ _ _ 0 0 _
        dsimp only [Option.toList, List.nil_append]
        refine r_goto (t := 184) hm rfl (k := ?_)
        refine r_iinc hm rfl (hr := (by omega)) (k := ?_)
        refine r_goto (t := 11) hm rfl (k := ?_)
        have eI : iS x H lt i (ly x H lt i).1 = ((lls x H i (nli x lt i) (ndi x lt i) (ly x H lt i).1).1, fun k => (lls x H i (nli x lt i) (ndi x lt i) (ly x H lt i).1).2 (loi x lt i k)) := by
          unfold iS
          rw [if_neg (show ¬ x.2.1 1 i = 0 by omega), if_pos (show x.2.1 1 i = 1 by omega)]
        have eN : lnc x lt i = (nli x lt i : Int) := by
          unfold lnc
          rw [if_neg (show ¬ x.2.1 1 i = 0 by omega), if_pos (show x.2.1 1 i = 1 by omega)]
        refine ih (d - 1) (by omega) (i + 1) _ _ (by omega) SF ?_ (hy.step SE9 (fun a k z => by first | omega | (unfold regP at z; omega)) (by rw [eN]; exact elE) (fun k hk => by rw [eI]; exact ppE k hk))
        show PgC _ (s + 2) x H (iS x H lt i (ly x H lt i).1).1
        rw [eI]
        exact hqE
    · refine r_aload_n hm rfl (k := ?_)
      refine r_iload hm rfl (k := ?_)
      refine r_aload hm rfl (k := ?_)
      refine r_getI (hm := hm) (hf := rfl) (hd := rfl) (hs := (by first | assumption | exact I1 _ (by omega) | exact I2 _ (by omega) | exact I3 _ (by omega) | exact I4 _ (by omega))) (hv := (by first | assumption | exact I0 _ (by omega) | exact J0 _ (by omega) | exact J1 _ (by omega) | exact J2 _ (by omega) | exact F1 _ (by omega) | exact F2 _ (by omega) | exact F4 _ (by omega) | exact P0 _ _ (by omega) (by omega) | exact P1 _ _ (by omega) (by omega) | exact P2 _ _ (by omega) (by omega) | exact K0 | exact K1 | exact K2 | exact K5 | exact eF _ (by omega))) (k := ?_)
      refine r_aload_n hm rfl (k := ?_)
      refine r_getR (hm := hm) (hf := rfl) (hd := rfl) (hs := (by first | assumption | exact I1 _ (by omega) | exact I2 _ (by omega) | exact I3 _ (by omega) | exact I4 _ (by omega))) (hv := (by first | assumption | exact I0 _ (by omega) | exact J0 _ (by omega) | exact J1 _ (by omega) | exact J2 _ (by omega) | exact F1 _ (by omega) | exact F2 _ (by omega) | exact F4 _ (by omega) | exact P0 _ _ (by omega) (by omega) | exact P1 _ _ (by omega) (by omega) | exact P2 _ _ (by omega) (by omega) | exact K0 | exact K1 | exact K2 | exact K5 | exact eF _ (by omega))) (k := ?_)
      refine r_callv (j2 := 60) hm rfl rfl rfl rfl rfl rfl (by first | assumption | exact I1 _ (by omega) | exact I2 _ (by omega) | exact I3 _ (by omega) | exact I4 _ (by omega)) (Nat.le_of_ble_eq_true rfl) (Nat.le_of_ble_eq_true rfl) rfl ⟨Nat.le_of_ble_eq_true rfl, Nat.le_of_ble_eq_true rfl, Nat.le_of_ble_eq_true rfl, Nat.le_of_ble_eq_true rfl, Nat.le_of_ble_eq_true rfl⟩ rfl (c_chaptersNew (s := t + 2) T3 T4 T7) (fun v9 h9 p9 => ?_)
      obtain ⟨e1, e2⟩ := p9
      subst e2
      replace e1 := e1.symm
      subst e1
      rw [R7 12 (by omega)]
      change RN 58 52 _ _ _ 0 0 _
      dsimp only [Option.toList, List.cons_append, List.nil_append]
      have ez : (if x.2.2.2 12 = 1 then (1 : Int) else 0) = x.2.2.2 12 := by have := hok.2.2.2.2.2.2.2.2.2 12 (by omega) (by omega); split <;> omega
      rw [ez]
      have qH := c_layHeading g1 C1 hS hH hq ok hTi (by omega) (a := x.2.1 2 i) (z := x.2.2.2 12) (by omega) (hok.2.2.2.2.2.2.2.2.2 12 (by omega) (by omega))
      refine r_callv (j2 := 61) hm rfl rfl rfl rfl rfl rfl (by first | assumption | exact I1 _ (by omega) | exact I2 _ (by omega) | exact I3 _ (by omega) | exact I4 _ (by omega)) (Nat.le_of_ble_eq_true rfl) (Nat.le_of_ble_eq_true rfl) rfl ⟨Nat.le_of_ble_eq_true rfl, Nat.le_of_ble_eq_true rfl, Nat.le_of_ble_eq_true rfl, Nat.le_of_ble_eq_true rfl, Nat.le_of_ble_eq_true rfl⟩ rfl (qH) (fun v9 hB p9 => ?_)
      obtain ⟨SB, hqB, elB, e1⟩ := p9
      subst e1
      have SC : Sm (fun a _ => s + 2 ≤ a ∧ a ≤ s + 13 ∧ a ≠ s + 8) h hB := S1.trans (SB.mono (fun a k z => by unfold regP at z; omega))
      change RN 58 55 _ _ _ 0 0 _
      dsimp only [Option.toList, List.nil_append]
      refine r_goto (t := 184) hm rfl (k := ?_)
      refine r_iinc hm rfl (hr := (by omega)) (k := ?_)
      refine r_goto (t := 11) hm rfl (k := ?_)
      have eI : iS x H lt i (ly x H lt i).1 = (tk (se (sf (rm x H (hli (x.2.1 2 i) + 2) (if x.2.1 2 i = 1 ∧ x.2.2.2 12 = 1 ∧ ((ly x H lt i).1).2.1 ((ly x H lt i).1).1 ≠ 0 then tn x H (ly x H lt i).1 else (ly x H lt i).1)) i) i) (hli (x.2.1 2 i)), fun _ => 0) := by
        unfold iS
        rw [if_pos (show x.2.1 1 i = 0 by omega)]
      have eN : lnc x lt i = hli (x.2.1 2 i) := by
        unfold lnc
        rw [if_pos (show x.2.1 1 i = 0 by omega)]
      refine ih (d - 1) (by omega) (i + 1) _ _ (by omega) SC ?_ (hy.step SB (fun a k z => by first | omega | (unfold regP at z; omega)) (by rw [eN]; exact elB) (fun k hk => by omega))
      show PgC _ (s + 2) x H (iS x H lt i (ly x H lt i).1).1
      rw [eI]
      exact hqB
