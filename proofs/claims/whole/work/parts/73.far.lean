/-! far: the reference -/
set_option maxRecDepth 8000 in
theorem m_far {L : Nat} {h : Hp} {S : St} (I : InvM L h S) (ok : okS S) {i j9 : Int} (hi0 : inI i) (hj0 : inI j9) : RN 215 0 [some (.inr (.inr (some 1085))), some (.inl i), some (.inl j9)] [] h 0 0 (fun v h2 => InvM L h2 S ∧ FxM h h2 ∧ v = some (.inl (aFar S i j9))) := by
  have hm : mrec 215 = some nM215 := rfl
  obtain ⟨g, hR, hV, hK, hG, hL, hB, hFl⟩ := id I
  have hok := ok.1
  obtain ⟨M0, M1, M2, M3, M4, Q0, Q1, Q2, S0, N0, N1⟩ := hR.use
  have n60 := hok.1
  have g1 := g
  have hR1 := hR
  have hH : 8 ≤ S.1.2.2.2 0 ∧ S.1.2.2.2 0 ≤ 60 := by have := hok.2.2.2.2; unfold okStl at this; omega
  refine r_aload_n hm rfl (k := ?_)
  refine r_iload_n hm rfl (k := ?_)
  refine r_callv (j2 := 165) hm rfl rfl rfl rfl rfl rfl (by first | assumption | exact (g1.1 _).trans rfl) (Nat.le_of_ble_eq_true rfl) (Nat.le_of_ble_eq_true rfl) rfl ⟨Nat.le_of_ble_eq_true rfl, Nat.le_of_ble_eq_true rfl, Nat.le_of_ble_eq_true rfl, Nat.le_of_ble_eq_true rfl, Nat.le_of_ble_eq_true rfl⟩ rfl (m_isItem g hR hi0) (fun v9 h9 p9 => ?_)
  obtain ⟨e1, e2⟩ := p9
  subst e2
  replace e1 := e1.symm
  subst e1
  obtain ⟨b9, eb9, hb9⟩ := ite01 (p := 0 ≤ i ∧ i < (S.1.1 : Int))
  rw [eb9]
  change RN 215 5 _ _ _ 0 0 _
  dsimp only [Option.toList, List.cons_append, List.nil_append]
  refine r_if_eq (t := 16) hm rfl rfl (fun c5 => ?_) (fun c5 => ?_)
  · refine r_sipush hm rfl (k := ?_)
    refine r_ireturn hm rfl rfl (by rfl) (Nat.le_of_ble_eq_true rfl) (Nat.le_of_ble_eq_true rfl) ?_
    refine ⟨I, Sm.refl, ?_⟩
    unfold aFar
    rw [if_neg (by omega)]
  · refine r_aload_n hm rfl (k := ?_)
    refine r_iload_n hm rfl (k := ?_)
    refine r_callv (j2 := 165) hm rfl rfl rfl rfl rfl rfl (by first | assumption | exact (g1.1 _).trans rfl) (Nat.le_of_ble_eq_true rfl) (Nat.le_of_ble_eq_true rfl) rfl ⟨Nat.le_of_ble_eq_true rfl, Nat.le_of_ble_eq_true rfl, Nat.le_of_ble_eq_true rfl, Nat.le_of_ble_eq_true rfl, Nat.le_of_ble_eq_true rfl⟩ rfl (m_isItem g hR hj0) (fun v9 h9 p9 => ?_)
    obtain ⟨e1, e2⟩ := p9
    subst e2
    replace e1 := e1.symm
    subst e1
    obtain ⟨b8, eb8, hb8⟩ := ite01 (p := 0 ≤ j9 ∧ j9 < (S.1.1 : Int))
    rw [eb8]
    change RN 215 13 _ _ _ 0 0 _
    dsimp only [Option.toList, List.cons_append, List.nil_append]
    refine r_if_ne (t := 20) hm rfl rfl (fun c13 => ?_) (fun c13 => ?_)
    · obtain ⟨q, rfl⟩ := Int.eq_ofNat_of_zero_le (show 0 ≤ i by omega)
      obtain ⟨q2, rfl⟩ := Int.eq_ofNat_of_zero_le (show 0 ≤ j9 by omega)
      refine r_aload_n hm rfl (k := ?_)
      refine r_iconst hm rfl (k := ?_)
      refine r_putI (hm := hm) (hf := rfl) (hd := rfl) (hs := (by first | assumption | exact (g1.1 _).trans rfl)) (hfin := Or.inl rfl) (hz := fun q9 => absurd q9 (by decide)) (k := ?_)
      refine RN.abs (fun h1 => Sm regM h h1 ∧ h1.2.1 1085 12 = ((3 : Nat) : Int)) ⟨Sm.put Sm.refl (by unfold regM; omega), putI_eq⟩ (fun h1 H9 => ?_)
      obtain ⟨S1, hc1⟩ := H9
      replace g1 := S1.gg g
      replace hR1 := S1.repM (fun a k z => regM_R z) hR
      clear M0 M1 M2 M3 M4 Q0 Q1 Q2 S0 N0 N1
      obtain ⟨M0, M1, M2, M3, M4, Q0, Q1, Q2, S0, N0, N1⟩ := hR1.use
      refine r_aload_n hm rfl (k := ?_)
      refine r_callv (j2 := 173) hm rfl rfl rfl rfl rfl rfl (by first | assumption | exact (g1.1 _).trans rfl) (Nat.le_of_ble_eq_true rfl) (Nat.le_of_ble_eq_true rfl) rfl ⟨Nat.le_of_ble_eq_true rfl, Nat.le_of_ble_eq_true rfl, Nat.le_of_ble_eq_true rfl, Nat.le_of_ble_eq_true rfl, Nat.le_of_ble_eq_true rfl⟩ rfl (m_findNumbers g1 hc1 (by omega) hR1 hok) (fun v9 hA p9 => ?_)
      obtain ⟨SA, nA, e1⟩ := p9
      subst e1
      replace hc1 : hA.2.1 1085 12 = ((3 : Nat) : Int) := (SA.2.2 _ _ (by unfold regF; omega)).trans hc1
      replace S1 : Sm regM h hA := S1.trans (SA.mono (fun a k z => by unfold regF at z; unfold regM; omega))
      replace g1 := S1.gg g
      replace hR1 := S1.repM (fun a k z => regM_R z) hR
      clear M0 M1 M2 M3 M4 Q0 Q1 Q2 S0 N0 N1
      obtain ⟨M0, M1, M2, M3, M4, Q0, Q1, Q2, S0, N0, N1⟩ := hR1.use
      change RN 215 29 _ _ _ 0 0 _
      dsimp only [Option.toList, List.nil_append]
      obtain ⟨s1, s2⟩ := secN_eq hok (i := q) (by omega)
      obtain ⟨s3, s4⟩ := secN_eq hok (i := q2) (by omega)
      have nQ := (nA q (by omega)).1
      have nQ2 := (nA q2 (by omega)).1
      have qF := m_findFar (src := secN S.1 q) g1 hc1 hR1 hok nA s2
      rw [s1] at qF
      refine r_aload_n hm rfl (k := ?_)
      refine r_aload_n hm rfl (k := ?_)
      refine r_getR (hm := hm) (hf := rfl) (hd := rfl) (hs := (by first | assumption | exact (g1.1 _).trans rfl)) (hv := (by first | assumption | exact g1.2 _ _ _ rfl | exact nQ | exact nQ2 | exact eB2)) (k := ?_)
      refine r_iload_n hm rfl (k := ?_)
      refine r_iald (hm := hm) (hf := rfl) (hs := (by first | assumption | exact (g1.1 _).trans rfl)) (kk := q) (hi := by omega) (hn := (by omega)) (hv := (by first | assumption | exact g1.2 _ _ _ rfl | exact nQ | exact nQ2 | exact eB2)) (k := ?_)
      refine r_iconst hm rfl (k := ?_)
      refine r_iadd hm rfl (hr := (by omega)) (k := ?_)
      refine r_callv (j2 := 216) hm rfl rfl rfl rfl rfl rfl (by first | assumption | exact (g1.1 _).trans rfl) (Nat.le_of_ble_eq_true rfl) (Nat.le_of_ble_eq_true rfl) rfl ⟨Nat.le_of_ble_eq_true rfl, Nat.le_of_ble_eq_true rfl, Nat.le_of_ble_eq_true rfl, Nat.le_of_ble_eq_true rfl, Nat.le_of_ble_eq_true rfl⟩ rfl (qF) (fun v9 hB p9 => ?_)
      obtain ⟨SB, eB, e1⟩ := p9
      subst e1
      replace g1 := SB.gg g1
      replace nQ2 := (SB.2.2 1097 q2 (by omega)).trans nQ2
      have eB2 := eB (secN S.1 q2) s4
      change RN 215 41 _ _ _ 0 0 _
      dsimp only [Option.toList, List.nil_append]
      refine r_aload_n hm rfl (k := ?_)
      refine r_getR (hm := hm) (hf := rfl) (hd := rfl) (hs := (by first | assumption | exact (g1.1 _).trans rfl)) (hv := (by first | assumption | exact g1.2 _ _ _ rfl | exact nQ | exact nQ2 | exact eB2)) (k := ?_)
      refine r_aload_n hm rfl (k := ?_)
      refine r_getR (hm := hm) (hf := rfl) (hd := rfl) (hs := (by first | assumption | exact (g1.1 _).trans rfl)) (hv := (by first | assumption | exact g1.2 _ _ _ rfl | exact nQ | exact nQ2 | exact eB2)) (k := ?_)
      refine r_iload_n hm rfl (k := ?_)
      refine r_iald (hm := hm) (hf := rfl) (hs := (by first | assumption | exact (g1.1 _).trans rfl)) (kk := q2) (hi := by omega) (hn := (by omega)) (hv := (by first | assumption | exact g1.2 _ _ _ rfl | exact nQ | exact nQ2 | exact eB2)) (k := ?_)
      refine r_iconst hm rfl (k := ?_)
      refine r_iadd hm rfl (hr := (by omega)) (k := ?_)
      refine r_iald (hm := hm) (hf := rfl) (hs := (by first | assumption | exact (g1.1 _).trans rfl)) (kk := secN S.1 q2) (hi := by omega) (hn := (by omega)) (hv := (by first | assumption | exact g1.2 _ _ _ rfl | exact nQ | exact nQ2 | exact eB2)) (k := ?_)
      refine r_ireturn hm rfl rfl (by rfl) (Nat.le_of_ble_eq_true rfl) (Nat.le_of_ble_eq_true rfl) ?_
      refine ⟨(I.sm S1 (fun a k z => by unfold regM at z; unfold idleM; omega)).sm SB (fun a k z => by unfold idleM; omega), (S1.mono (fun a k z => by unfold regM at z; omega)).trans (SB.mono (fun a k z => by omega)), ?_⟩
      unfold aFar
      rw [if_pos (by omega), Int.toNat_natCast, Int.toNat_natCast]
    · refine r_sipush hm rfl (k := ?_)
      refine r_ireturn hm rfl rfl (by rfl) (Nat.le_of_ble_eq_true rfl) (Nat.le_of_ble_eq_true rfl) ?_
      refine ⟨I, Sm.refl, ?_⟩
      unfold aFar
      rw [if_neg (by omega)]
