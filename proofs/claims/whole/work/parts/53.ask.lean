/-! questions: the reference -/
theorem m_setNow {L : Nat} {h : Hp} {S : St} (I : InvM L h S) (ok : okS S) : RN 184 0 [some (.inr (.inr (some 1085)))] [] h 0 0 (fun v h2 => Sm regM h h2 ∧ SetM h2 3 S.1 (S.1.2.2.2 0) ∧ v = none) := by
  have hm : mrec 184 = some nM184 := rfl
  obtain ⟨g, hR, hV, hK, hG, hL, hB, hFl⟩ := id I
  have hok := ok.1
  obtain ⟨M0, M1, M2, M3, M4, Q0, Q1, Q2, S0, N0, N1⟩ := hR.use
  have n60 := hok.1
  have g1 := g
  have hR1 := hR
  have hH : 8 ≤ S.1.2.2.2 0 ∧ S.1.2.2.2 0 ≤ 60 := by have := hok.2.2.2.2; unfold okStl at this; omega
  refine r_aload_n hm rfl (k := ?_)
  refine r_iconst hm rfl (k := ?_)
  refine r_iconst hm rfl (k := ?_)
  refine r_callv (j2 := 185) hm rfl rfl rfl rfl rfl rfl (by first | assumption | exact (g1.1 _).trans rfl) (Nat.le_of_ble_eq_true rfl) (Nat.le_of_ble_eq_true rfl) rfl ⟨Nat.le_of_ble_eq_true rfl, Nat.le_of_ble_eq_true rfl, Nat.le_of_ble_eq_true rfl, Nat.le_of_ble_eq_true rfl, Nat.le_of_ble_eq_true rfl⟩ rfl (m_setAll (c := 3) (ln := 0) (H := S.1.2.2.2 0) g (by omega) hR hok (if_pos rfl).symm hH) (fun v9 h9 p9 => ?_)
  obtain ⟨S1, yS, e1⟩ := p9
  subst e1
  change RN 184 6 _ _ _ 0 0 _
  dsimp only [Option.toList, List.nil_append]
  refine r_return hm rfl rfl (Nat.le_of_ble_eq_true rfl) (Nat.le_of_ble_eq_true rfl) ?_
  exact ⟨S1, yS, rfl⟩
set_option maxRecDepth 8000 in
theorem m_about {L : Nat} {h : Hp} {S : St} (I : InvM L h S) (ok : okS S) {i w : Int} (hi0 : inI i) : RN 172 0 [some (.inr (.inr (some 1085))), some (.inl i), some (.inl w)] [] h 0 0 (fun v h2 => InvM L h2 S ∧ FxM h h2 ∧ v = some (.inl (aAbout S i w))) := by
  have hm : mrec 172 = some nM172 := rfl
  obtain ⟨g, hR, hV, hK, hG, hL, hB, hFl⟩ := id I
  have hok := ok.1
  obtain ⟨M0, M1, M2, M3, M4, Q0, Q1, Q2, S0, N0, N1⟩ := hR.use
  have n60 := hok.1
  have g1 := g
  have hR1 := hR
  have hH : 8 ≤ S.1.2.2.2 0 ∧ S.1.2.2.2 0 ≤ 60 := by have := hok.2.2.2.2; unfold okStl at this; omega
  refine r_aload_n hm rfl (k := ?_)
  refine r_iload_n hm rfl (k := ?_)
  refine r_callv (j2 := 165) hm rfl rfl rfl rfl rfl rfl (by first | assumption | exact (g1.1 _).trans rfl) (Nat.le_of_ble_eq_true rfl) (Nat.le_of_ble_eq_true rfl) rfl ⟨Nat.le_of_ble_eq_true rfl, Nat.le_of_ble_eq_true rfl, Nat.le_of_ble_eq_true rfl, Nat.le_of_ble_eq_true rfl, Nat.le_of_ble_eq_true rfl⟩ rfl (m_isItem g hR hi0) (fun v9 h9 p9 => ?_)
  obtain ⟨e1, e2⟩ := p9
  subst e2
  replace e1 := e1.symm
  subst e1
  obtain ⟨b9, eb9, hb9⟩ := ite01 (p := 0 ≤ i ∧ i < (S.1.1 : Int))
  rw [eb9]
  change RN 172 5 _ _ _ 0 0 _
  dsimp only [Option.toList, List.cons_append, List.nil_append]
  refine r_if_ne (t := 12) hm rfl rfl (fun c5 => ?_) (fun c5 => ?_)
  · obtain ⟨q, rfl⟩ := Int.eq_ofNat_of_zero_le (show 0 ≤ i by omega)
    refine r_aload_n hm rfl (k := ?_)
    refine r_iconst hm rfl (k := ?_)
    refine r_putI (hm := hm) (hf := rfl) (hd := rfl) (hs := (by first | assumption | exact (g1.1 _).trans rfl)) (hfin := Or.inl rfl) (hz := fun q9 => absurd q9 (by decide)) (k := ?_)
    refine RN.abs (fun h1 => Sm regM h h1 ∧ h1.2.1 1085 12 = ((3 : Nat) : Int)) ⟨Sm.put Sm.refl (by unfold regM; omega), putI_eq⟩ (fun h1 H9 => ?_)
    obtain ⟨S1, hc1⟩ := H9
    replace g1 := S1.gg g
    replace hR1 := S1.repM (fun a k z => regM_R z) hR
    clear M0 M1 M2 M3 M4 Q0 Q1 Q2 S0 N0 N1
    obtain ⟨M0, M1, M2, M3, M4, Q0, Q1, Q2, S0, N0, N1⟩ := hR1.use
    refine r_aload_n hm rfl (k := ?_)
    refine r_callv (j2 := 173) hm rfl rfl rfl rfl rfl rfl (by first | assumption | exact (g1.1 _).trans rfl) (Nat.le_of_ble_eq_true rfl) (Nat.le_of_ble_eq_true rfl) rfl ⟨Nat.le_of_ble_eq_true rfl, Nat.le_of_ble_eq_true rfl, Nat.le_of_ble_eq_true rfl, Nat.le_of_ble_eq_true rfl, Nat.le_of_ble_eq_true rfl⟩ rfl (m_findNumbers g1 hc1 (by omega) hR1 hok) (fun v9 hA p9 => ?_)
    obtain ⟨SA, nA, e1⟩ := p9
    subst e1
    replace hc1 : hA.2.1 1085 12 = ((3 : Nat) : Int) := (SA.2.2 _ _ (by unfold regF; omega)).trans hc1
    replace S1 : Sm regM h hA := S1.trans (SA.mono (fun a k z => by unfold regF at z; unfold regM; omega))
    replace g1 := S1.gg g
    replace hR1 := S1.repM (fun a k z => regM_R z) hR
    clear M0 M1 M2 M3 M4 Q0 Q1 Q2 S0 N0 N1
    obtain ⟨M0, M1, M2, M3, M4, Q0, Q1, Q2, S0, N0, N1⟩ := hR1.use
    change RN 172 21 _ _ _ 0 0 _
    dsimp only [Option.toList, List.nil_append]
    refine r_iload_n hm rfl (k := ?_)
    by_cases s22_0 : w = 0
    · refine r_tsw hm rfl 68 (fun q => by omega) (fun q => ⟨46, by rw [s22_0]; rfl, rfl⟩) ?_
      refine r_aload_n hm rfl (k := ?_)
      refine r_getR (hm := hm) (hf := rfl) (hd := rfl) (hs := (by first | assumption | exact (g1.1 _).trans rfl)) (hv := (by first | assumption | exact g1.2 _ _ _ rfl | exact M0 _ (by omega) | exact M1 _ (by omega) | exact M2 _ (by omega) | exact M3 _ (by omega) | exact M4 _ (by omega) | exact Q0 _ _ (by omega) (by omega) | exact Q1 _ _ (by omega) (by omega) | exact Q2 _ _ (by omega) (by omega) | exact (nA _ (by omega)).1 | exact (nA _ (by omega)).2.2.1 | exact (nA _ (by omega)).2.2.2.1)) (k := ?_)
      refine r_sipush hm rfl (k := ?_)
      refine r_iload_n hm rfl (k := ?_)
      refine r_iadd hm rfl (hr := (by omega)) (k := ?_)
      refine r_iald (hm := hm) (hf := rfl) (hs := (by first | assumption | exact (g1.1 _).trans rfl)) (kk := 60 * 3 + q) (hi := by omega) (hn := (by omega)) (hv := (by first | assumption | exact g1.2 _ _ _ rfl | exact M0 _ (by omega) | exact M1 _ (by omega) | exact M2 _ (by omega) | exact M3 _ (by omega) | exact M4 _ (by omega) | exact Q0 _ _ (by omega) (by omega) | exact Q1 _ _ (by omega) (by omega) | exact Q2 _ _ (by omega) (by omega) | exact (nA _ (by omega)).1 | exact (nA _ (by omega)).2.2.1 | exact (nA _ (by omega)).2.2.2.1)) (k := ?_)
      refine r_ireturn hm rfl rfl (by rfl) (Nat.le_of_ble_eq_true rfl) (Nat.le_of_ble_eq_true rfl) ?_
      refine ⟨I.sm S1 (fun a k z => by unfold regM at z; unfold idleM; omega), S1.mono (fun a k z => by unfold regM at z; omega), ?_⟩
      unfold aAbout
      rw [if_neg (by omega), if_pos (by omega)]
      try rfl
    by_cases s22_1 : w = 1
    · refine r_tsw hm rfl 79 (fun q => by omega) (fun q => ⟨57, by rw [s22_1]; rfl, rfl⟩) ?_
      refine r_aload_n hm rfl (k := ?_)
      refine r_iload_n hm rfl (k := ?_)
      refine r_callv (j2 := 174) hm rfl rfl rfl rfl rfl rfl (by first | assumption | exact (g1.1 _).trans rfl) (Nat.le_of_ble_eq_true rfl) (Nat.le_of_ble_eq_true rfl) rfl ⟨Nat.le_of_ble_eq_true rfl, Nat.le_of_ble_eq_true rfl, Nat.le_of_ble_eq_true rfl, Nat.le_of_ble_eq_true rfl, Nat.le_of_ble_eq_true rfl⟩ rfl (m_kind g1 hc1 (by omega) hR1 (i := q) (by omega)) (fun v9 h9 p9 => ?_)
      obtain ⟨e1, e2⟩ := p9
      subst e2
      replace e1 := e1.symm
      subst e1
      change RN 172 84 _ _ _ 0 0 _
      dsimp only [Option.toList, List.cons_append, List.nil_append]
      refine r_ireturn hm rfl rfl (by rfl) (Nat.le_of_ble_eq_true rfl) (Nat.le_of_ble_eq_true rfl) ?_
      refine ⟨I.sm S1 (fun a k z => by unfold regM at z; unfold idleM; omega), S1.mono (fun a k z => by unfold regM at z; omega), ?_⟩
      unfold aAbout
      rw [if_neg (by omega), if_neg (by omega), if_pos (by omega)]
      try rfl
    by_cases s22_2 : w = 2
    · refine r_tsw hm rfl 85 (fun q => by omega) (fun q => ⟨63, by rw [s22_2]; rfl, rfl⟩) ?_
      refine r_aload_n hm rfl (k := ?_)
      refine r_iload_n hm rfl (k := ?_)
      refine r_callv (j2 := 175) hm rfl rfl rfl rfl rfl rfl (by first | assumption | exact (g1.1 _).trans rfl) (Nat.le_of_ble_eq_true rfl) (Nat.le_of_ble_eq_true rfl) rfl ⟨Nat.le_of_ble_eq_true rfl, Nat.le_of_ble_eq_true rfl, Nat.le_of_ble_eq_true rfl, Nat.le_of_ble_eq_true rfl, Nat.le_of_ble_eq_true rfl⟩ rfl (m_a g1 hc1 (by omega) hR1 (i := q) (by omega)) (fun v9 h9 p9 => ?_)
      obtain ⟨e1, e2⟩ := p9
      subst e2
      replace e1 := e1.symm
      subst e1
      change RN 172 90 _ _ _ 0 0 _
      dsimp only [Option.toList, List.cons_append, List.nil_append]
      refine r_ireturn hm rfl rfl (by rfl) (Nat.le_of_ble_eq_true rfl) (Nat.le_of_ble_eq_true rfl) ?_
      refine ⟨I.sm S1 (fun a k z => by unfold regM at z; unfold idleM; omega), S1.mono (fun a k z => by unfold regM at z; omega), ?_⟩
      unfold aAbout
      rw [if_neg (by omega), if_neg (by omega), if_neg (by omega), if_pos (by omega)]
      try rfl
    by_cases s22_3 : w = 3
    · refine r_tsw hm rfl 91 (fun q => by omega) (fun q => ⟨69, by rw [s22_3]; rfl, rfl⟩) ?_
      refine r_aload_n hm rfl (k := ?_)
      refine r_getR (hm := hm) (hf := rfl) (hd := rfl) (hs := (by first | assumption | exact (g1.1 _).trans rfl)) (hv := (by first | assumption | exact g1.2 _ _ _ rfl | exact M0 _ (by omega) | exact M1 _ (by omega) | exact M2 _ (by omega) | exact M3 _ (by omega) | exact M4 _ (by omega) | exact Q0 _ _ (by omega) (by omega) | exact Q1 _ _ (by omega) (by omega) | exact Q2 _ _ (by omega) (by omega) | exact (nA _ (by omega)).1 | exact (nA _ (by omega)).2.2.1 | exact (nA _ (by omega)).2.2.2.1)) (k := ?_)
      refine r_sipush hm rfl (k := ?_)
      refine r_iload_n hm rfl (k := ?_)
      refine r_iadd hm rfl (hr := (by omega)) (k := ?_)
      refine r_iald (hm := hm) (hf := rfl) (hs := (by first | assumption | exact (g1.1 _).trans rfl)) (kk := 60 * 3 + q) (hi := by omega) (hn := (by omega)) (hv := (by first | assumption | exact g1.2 _ _ _ rfl | exact M0 _ (by omega) | exact M1 _ (by omega) | exact M2 _ (by omega) | exact M3 _ (by omega) | exact M4 _ (by omega) | exact Q0 _ _ (by omega) (by omega) | exact Q1 _ _ (by omega) (by omega) | exact Q2 _ _ (by omega) (by omega) | exact (nA _ (by omega)).1 | exact (nA _ (by omega)).2.2.1 | exact (nA _ (by omega)).2.2.2.1)) (k := ?_)
      refine r_ireturn hm rfl rfl (by rfl) (Nat.le_of_ble_eq_true rfl) (Nat.le_of_ble_eq_true rfl) ?_
      refine ⟨I.sm S1 (fun a k z => by unfold regM at z; unfold idleM; omega), S1.mono (fun a k z => by unfold regM at z; omega), ?_⟩
      unfold aAbout
      rw [if_neg (by omega), if_neg (by omega), if_neg (by omega), if_neg (by omega), if_pos (by omega)]
      try rfl
    by_cases s22_4 : w = 4
    · refine r_tsw hm rfl 102 (fun q => by omega) (fun q => ⟨80, by rw [s22_4]; rfl, rfl⟩) ?_
      refine r_aload_n hm rfl (k := ?_)
      refine r_iload_n hm rfl (k := ?_)
      refine r_callv (j2 := 181) hm rfl rfl rfl rfl rfl rfl (by first | assumption | exact (g1.1 _).trans rfl) (Nat.le_of_ble_eq_true rfl) (Nat.le_of_ble_eq_true rfl) rfl ⟨Nat.le_of_ble_eq_true rfl, Nat.le_of_ble_eq_true rfl, Nat.le_of_ble_eq_true rfl, Nat.le_of_ble_eq_true rfl, Nat.le_of_ble_eq_true rfl⟩ rfl (m_piecesOf g1 hc1 (by omega) hR1 (i := q) (by omega)) (fun v9 h9 p9 => ?_)
      obtain ⟨e1, e2⟩ := p9
      subst e2
      replace e1 := e1.symm
      subst e1
      change RN 172 107 _ _ _ 0 0 _
      dsimp only [Option.toList, List.cons_append, List.nil_append]
      refine r_ireturn hm rfl rfl (by rfl) (Nat.le_of_ble_eq_true rfl) (Nat.le_of_ble_eq_true rfl) ?_
      refine ⟨I.sm S1 (fun a k z => by unfold regM at z; unfold idleM; omega), S1.mono (fun a k z => by unfold regM at z; omega), ?_⟩
      unfold aAbout
      rw [if_neg (by omega), if_neg (by omega), if_neg (by omega), if_neg (by omega), if_neg (by omega), if_pos (by omega)]
      try rfl
    by_cases s22_5 : w = 5
    · refine r_tsw hm rfl 108 (fun q => by omega) (fun q => ⟨86, by rw [s22_5]; rfl, rfl⟩) ?_
      refine r_aload_n hm rfl (k := ?_)
      refine r_getR (hm := hm) (hf := rfl) (hd := rfl) (hs := (by first | assumption | exact (g1.1 _).trans rfl)) (hv := (by first | assumption | exact g1.2 _ _ _ rfl | exact M0 _ (by omega) | exact M1 _ (by omega) | exact M2 _ (by omega) | exact M3 _ (by omega) | exact M4 _ (by omega) | exact Q0 _ _ (by omega) (by omega) | exact Q1 _ _ (by omega) (by omega) | exact Q2 _ _ (by omega) (by omega) | exact (nA _ (by omega)).1 | exact (nA _ (by omega)).2.2.1 | exact (nA _ (by omega)).2.2.2.1)) (k := ?_)
      refine r_iload_n hm rfl (k := ?_)
      refine r_iald (hm := hm) (hf := rfl) (hs := (by first | assumption | exact (g1.1 _).trans rfl)) (hi := rfl) (hn := (by omega)) (hv := (by first | assumption | exact g1.2 _ _ _ rfl | exact M0 _ (by omega) | exact M1 _ (by omega) | exact M2 _ (by omega) | exact M3 _ (by omega) | exact M4 _ (by omega) | exact Q0 _ _ (by omega) (by omega) | exact Q1 _ _ (by omega) (by omega) | exact Q2 _ _ (by omega) (by omega) | exact (nA _ (by omega)).1 | exact (nA _ (by omega)).2.2.1 | exact (nA _ (by omega)).2.2.2.1)) (k := ?_)
      refine r_ireturn hm rfl rfl (by rfl) (Nat.le_of_ble_eq_true rfl) (Nat.le_of_ble_eq_true rfl) ?_
      refine ⟨I.sm S1 (fun a k z => by unfold regM at z; unfold idleM; omega), S1.mono (fun a k z => by unfold regM at z; omega), ?_⟩
      unfold aAbout
      rw [if_neg (by omega), if_neg (by omega), if_neg (by omega), if_neg (by omega), if_neg (by omega), if_neg (by omega), if_pos (by omega)]
      try rfl
    by_cases s22_6 : w = 6
    · refine r_tsw hm rfl 115 (fun q => by omega) (fun q => ⟨93, by rw [s22_6]; rfl, rfl⟩) ?_
      refine r_aload_n hm rfl (k := ?_)
      refine r_getR (hm := hm) (hf := rfl) (hd := rfl) (hs := (by first | assumption | exact (g1.1 _).trans rfl)) (hv := (by first | assumption | exact g1.2 _ _ _ rfl | exact M0 _ (by omega) | exact M1 _ (by omega) | exact M2 _ (by omega) | exact M3 _ (by omega) | exact M4 _ (by omega) | exact Q0 _ _ (by omega) (by omega) | exact Q1 _ _ (by omega) (by omega) | exact Q2 _ _ (by omega) (by omega) | exact (nA _ (by omega)).1 | exact (nA _ (by omega)).2.2.1 | exact (nA _ (by omega)).2.2.2.1)) (k := ?_)
      refine r_iload_n hm rfl (k := ?_)
      refine r_iald (hm := hm) (hf := rfl) (hs := (by first | assumption | exact (g1.1 _).trans rfl)) (hi := rfl) (hn := (by omega)) (hv := (by first | assumption | exact g1.2 _ _ _ rfl | exact M0 _ (by omega) | exact M1 _ (by omega) | exact M2 _ (by omega) | exact M3 _ (by omega) | exact M4 _ (by omega) | exact Q0 _ _ (by omega) (by omega) | exact Q1 _ _ (by omega) (by omega) | exact Q2 _ _ (by omega) (by omega) | exact (nA _ (by omega)).1 | exact (nA _ (by omega)).2.2.1 | exact (nA _ (by omega)).2.2.2.1)) (k := ?_)
      refine r_ireturn hm rfl rfl (by rfl) (Nat.le_of_ble_eq_true rfl) (Nat.le_of_ble_eq_true rfl) ?_
      refine ⟨I.sm S1 (fun a k z => by unfold regM at z; unfold idleM; omega), S1.mono (fun a k z => by unfold regM at z; omega), ?_⟩
      unfold aAbout
      rw [if_neg (by omega), if_neg (by omega), if_neg (by omega), if_neg (by omega), if_neg (by omega), if_neg (by omega), if_neg (by omega), if_pos (by omega)]
      try rfl
    by_cases s22_7 : w = 7
    · refine r_tsw hm rfl 122 (fun q => by omega) (fun q => ⟨100, by rw [s22_7]; rfl, rfl⟩) ?_
      refine r_aload_n hm rfl (k := ?_)
      refine r_getR (hm := hm) (hf := rfl) (hd := rfl) (hs := (by first | assumption | exact (g1.1 _).trans rfl)) (hv := (by first | assumption | exact g1.2 _ _ _ rfl | exact M0 _ (by omega) | exact M1 _ (by omega) | exact M2 _ (by omega) | exact M3 _ (by omega) | exact M4 _ (by omega) | exact Q0 _ _ (by omega) (by omega) | exact Q1 _ _ (by omega) (by omega) | exact Q2 _ _ (by omega) (by omega) | exact (nA _ (by omega)).1 | exact (nA _ (by omega)).2.2.1 | exact (nA _ (by omega)).2.2.2.1)) (k := ?_)
      refine r_iload_n hm rfl (k := ?_)
      refine r_iald (hm := hm) (hf := rfl) (hs := (by first | assumption | exact (g1.1 _).trans rfl)) (hi := rfl) (hn := (by omega)) (hv := (by first | assumption | exact g1.2 _ _ _ rfl | exact M0 _ (by omega) | exact M1 _ (by omega) | exact M2 _ (by omega) | exact M3 _ (by omega) | exact M4 _ (by omega) | exact Q0 _ _ (by omega) (by omega) | exact Q1 _ _ (by omega) (by omega) | exact Q2 _ _ (by omega) (by omega) | exact (nA _ (by omega)).1 | exact (nA _ (by omega)).2.2.1 | exact (nA _ (by omega)).2.2.2.1)) (k := ?_)
      refine r_ireturn hm rfl rfl (by rfl) (Nat.le_of_ble_eq_true rfl) (Nat.le_of_ble_eq_true rfl) ?_
      refine ⟨I.sm S1 (fun a k z => by unfold regM at z; unfold idleM; omega), S1.mono (fun a k z => by unfold regM at z; omega), ?_⟩
      unfold aAbout
      rw [if_neg (by omega), if_neg (by omega), if_neg (by omega), if_neg (by omega), if_neg (by omega), if_neg (by omega), if_neg (by omega), if_neg (by omega), if_pos (by omega)]
      try rfl
    refine r_tsw hm rfl 129 (fun q => rfl) (fun q => by exfalso; omega) ?_
    refine r_sipush hm rfl (k := ?_)
    refine r_ireturn hm rfl rfl (by rfl) (Nat.le_of_ble_eq_true rfl) (Nat.le_of_ble_eq_true rfl) ?_
    refine ⟨I.sm S1 (fun a k z => by unfold regM at z; unfold idleM; omega), S1.mono (fun a k z => by unfold regM at z; omega), ?_⟩
    unfold aAbout
    rw [if_neg (by omega), if_neg (by omega), if_neg (by omega), if_neg (by omega), if_neg (by omega), if_neg (by omega), if_neg (by omega), if_neg (by omega), if_neg (by omega)]
    try rfl
  · refine r_sipush hm rfl (k := ?_)
    refine r_ireturn hm rfl rfl (by rfl) (Nat.le_of_ble_eq_true rfl) (Nat.le_of_ble_eq_true rfl) ?_
    refine ⟨I, Sm.refl, ?_⟩
    unfold aAbout
    rw [if_pos (by omega)]
set_option maxRecDepth 8000 in
theorem m_number {L : Nat} {h : Hp} {S : St} (I : InvM L h S) (ok : okS S) {i kI : Int} (hi0 : inI i) (hk0 : inI kI) : RN 182 0 [some (.inr (.inr (some 1085))), some (.inl i), some (.inl kI)] [] h 0 0 (fun v h2 => InvM L h2 S ∧ FxM h h2 ∧ v = some (.inl (aNumber S i kI))) := by
  have hm : mrec 182 = some nM182 := rfl
  obtain ⟨g, hR, hV, hK, hG, hL, hB, hFl⟩ := id I
  have hok := ok.1
  obtain ⟨M0, M1, M2, M3, M4, Q0, Q1, Q2, S0, N0, N1⟩ := hR.use
  have n60 := hok.1
  have g1 := g
  have hR1 := hR
  have hH : 8 ≤ S.1.2.2.2 0 ∧ S.1.2.2.2 0 ≤ 60 := by have := hok.2.2.2.2; unfold okStl at this; omega
  refine r_aload_n hm rfl (k := ?_)
  refine r_iload_n hm rfl (k := ?_)
  refine r_callv (j2 := 165) hm rfl rfl rfl rfl rfl rfl (by first | assumption | exact (g1.1 _).trans rfl) (Nat.le_of_ble_eq_true rfl) (Nat.le_of_ble_eq_true rfl) rfl ⟨Nat.le_of_ble_eq_true rfl, Nat.le_of_ble_eq_true rfl, Nat.le_of_ble_eq_true rfl, Nat.le_of_ble_eq_true rfl, Nat.le_of_ble_eq_true rfl⟩ rfl (m_isItem g hR hi0) (fun v9 h9 p9 => ?_)
  obtain ⟨e1, e2⟩ := p9
  subst e2
  replace e1 := e1.symm
  subst e1
  obtain ⟨b9, eb9, hb9⟩ := ite01 (p := 0 ≤ i ∧ i < (S.1.1 : Int))
  rw [eb9]
  change RN 182 5 _ _ _ 0 0 _
  dsimp only [Option.toList, List.cons_append, List.nil_append]
  refine r_if_ne (t := 12) hm rfl rfl (fun c5 => ?_) (fun c5 => ?_)
  · obtain ⟨q, rfl⟩ := Int.eq_ofNat_of_zero_le (show 0 ≤ i by omega)
    refine r_iload_n hm rfl (k := ?_)
    refine r_i2l hm rfl (k := ?_)
    refine r_lconst hm rfl (k := ?_)
    refine r_ldc2 hm rfl (hd := rfl) (k := ?_)
    refine r_calls (j2 := 162) hm rfl rfl rfl rfl rfl rfl (Nat.le_of_ble_eq_true rfl) (Nat.le_of_ble_eq_true rfl) rfl ⟨Nat.le_of_ble_eq_true rfl, Nat.le_of_ble_eq_true rfl, Nat.le_of_ble_eq_true rfl, Nat.le_of_ble_eq_true rfl, Nat.le_of_ble_eq_true rfl⟩ rfl (m_in (z := kI) (a := 1) (b := 4) (zL_t hk0) rfl rfl) (fun v9 h9 p9 => ?_)
    obtain ⟨e1, e2⟩ := p9
    subst e2
    replace e1 := e1.symm
    subst e1
    obtain ⟨b8, eb8, hb8⟩ := ite01 (p := (1 : Int) ≤ kI ∧ kI ≤ (4 : Int))
    rw [eb8]
    change RN 182 21 _ _ _ 0 0 _
    dsimp only [Option.toList, List.cons_append, List.nil_append]
    refine r_if_ne (t := 28) hm rfl rfl (fun c21 => ?_) (fun c21 => ?_)
    · obtain ⟨kn, rfl⟩ := Int.eq_ofNat_of_zero_le (show 0 ≤ kI by omega)
      refine r_aload_n hm rfl (k := ?_)
      refine r_iconst hm rfl (k := ?_)
      refine r_putI (hm := hm) (hf := rfl) (hd := rfl) (hs := (by first | assumption | exact (g1.1 _).trans rfl)) (hfin := Or.inl rfl) (hz := fun q9 => absurd q9 (by decide)) (k := ?_)
      refine RN.abs (fun h1 => Sm regM h h1 ∧ h1.2.1 1085 12 = ((3 : Nat) : Int)) ⟨Sm.put Sm.refl (by unfold regM; omega), putI_eq⟩ (fun h1 H9 => ?_)
      obtain ⟨S1, hc1⟩ := H9
      replace g1 := S1.gg g
      replace hR1 := S1.repM (fun a k z => regM_R z) hR
      clear M0 M1 M2 M3 M4 Q0 Q1 Q2 S0 N0 N1
      obtain ⟨M0, M1, M2, M3, M4, Q0, Q1, Q2, S0, N0, N1⟩ := hR1.use
      refine r_aload_n hm rfl (k := ?_)
      refine r_callv (j2 := 173) hm rfl rfl rfl rfl rfl rfl (by first | assumption | exact (g1.1 _).trans rfl) (Nat.le_of_ble_eq_true rfl) (Nat.le_of_ble_eq_true rfl) rfl ⟨Nat.le_of_ble_eq_true rfl, Nat.le_of_ble_eq_true rfl, Nat.le_of_ble_eq_true rfl, Nat.le_of_ble_eq_true rfl, Nat.le_of_ble_eq_true rfl⟩ rfl (m_findNumbers g1 hc1 (by omega) hR1 hok) (fun v9 hA p9 => ?_)
      obtain ⟨SA, nA, e1⟩ := p9
      subst e1
      replace hc1 : hA.2.1 1085 12 = ((3 : Nat) : Int) := (SA.2.2 _ _ (by unfold regF; omega)).trans hc1
      replace S1 : Sm regM h hA := S1.trans (SA.mono (fun a k z => by unfold regF at z; unfold regM; omega))
      replace g1 := S1.gg g
      replace hR1 := S1.repM (fun a k z => regM_R z) hR
      clear M0 M1 M2 M3 M4 Q0 Q1 Q2 S0 N0 N1
      obtain ⟨M0, M1, M2, M3, M4, Q0, Q1, Q2, S0, N0, N1⟩ := hR1.use
      change RN 182 37 _ _ _ 0 0 _
      dsimp only [Option.toList, List.nil_append]
      refine r_iload_n hm rfl (k := ?_)
      refine r_aload_n hm rfl (k := ?_)
      refine r_getR (hm := hm) (hf := rfl) (hd := rfl) (hs := (by first | assumption | exact (g1.1 _).trans rfl)) (hv := (by first | assumption | exact g1.2 _ _ _ rfl | exact M0 _ (by omega) | exact M1 _ (by omega) | exact M2 _ (by omega) | exact M3 _ (by omega) | exact M4 _ (by omega) | exact Q0 _ _ (by omega) (by omega) | exact Q1 _ _ (by omega) (by omega) | exact Q2 _ _ (by omega) (by omega) | exact (nA _ (by omega)).2.1 | exact eR)) (k := ?_)
      refine r_iload_n hm rfl (k := ?_)
      refine r_iald (hm := hm) (hf := rfl) (hs := (by first | assumption | exact (g1.1 _).trans rfl)) (hi := rfl) (hn := (by omega)) (hv := (by first | assumption | exact g1.2 _ _ _ rfl | exact M0 _ (by omega) | exact M1 _ (by omega) | exact M2 _ (by omega) | exact M3 _ (by omega) | exact M4 _ (by omega) | exact Q0 _ _ (by omega) (by omega) | exact Q1 _ _ (by omega) (by omega) | exact Q2 _ _ (by omega) (by omega) | exact (nA _ (by omega)).2.1 | exact eR)) (k := ?_)
      refine r_icmp_gt (t := 62) hm rfl rfl (fun c44 => ?_) (fun c44 => ?_)
      · refine r_iconst hm rfl (k := ?_)
        refine r_ireturn hm rfl rfl (by rfl) (Nat.le_of_ble_eq_true rfl) (Nat.le_of_ble_eq_true rfl) ?_
        refine ⟨I.sm S1 (fun a k z => by unfold regM at z; unfold idleM; omega), S1.mono (fun a k z => by unfold regM at z; omega), ?_⟩
        unfold aNumber
        rw [if_neg (by omega), if_neg (by omega), Int.toNat_natCast, Int.toNat_natCast]
        unfold nRow
        rw [if_neg (by omega)]
      · have eR := (nA q (by omega)).2.2.2.2 (kn - 1) (by omega) (by omega)
        refine r_aload_n hm rfl (k := ?_)
        refine r_getR (hm := hm) (hf := rfl) (hd := rfl) (hs := (by first | assumption | exact (g1.1 _).trans rfl)) (hv := (by first | assumption | exact g1.2 _ _ _ rfl | exact M0 _ (by omega) | exact M1 _ (by omega) | exact M2 _ (by omega) | exact M3 _ (by omega) | exact M4 _ (by omega) | exact Q0 _ _ (by omega) (by omega) | exact Q1 _ _ (by omega) (by omega) | exact Q2 _ _ (by omega) (by omega) | exact (nA _ (by omega)).2.1 | exact eR)) (k := ?_)
        refine r_iconst hm rfl (k := ?_)
        refine r_iload_n hm rfl (k := ?_)
        refine r_imul hm rfl (hr := (by omega)) (k := ?_)
        refine r_iload_n hm rfl (k := ?_)
        refine r_iadd hm rfl (hr := (by omega)) (k := ?_)
        refine r_iconst hm rfl (k := ?_)
        refine r_isub hm rfl (hr := (by omega)) (k := ?_)
        refine r_iald (hm := hm) (hf := rfl) (hs := (by first | assumption | exact (g1.1 _).trans rfl)) (kk := 4 * q + (kn - 1)) (hi := by omega) (hn := (by omega)) (hv := (by first | assumption | exact g1.2 _ _ _ rfl | exact M0 _ (by omega) | exact M1 _ (by omega) | exact M2 _ (by omega) | exact M3 _ (by omega) | exact M4 _ (by omega) | exact Q0 _ _ (by omega) (by omega) | exact Q1 _ _ (by omega) (by omega) | exact Q2 _ _ (by omega) (by omega) | exact (nA _ (by omega)).2.1 | exact eR)) (k := ?_)
        refine r_goto (t := 63) hm rfl (k := ?_)
        refine r_ireturn hm rfl rfl (by rfl) (Nat.le_of_ble_eq_true rfl) (Nat.le_of_ble_eq_true rfl) ?_
        refine ⟨I.sm S1 (fun a k z => by unfold regM at z; unfold idleM; omega), S1.mono (fun a k z => by unfold regM at z; omega), ?_⟩
        unfold aNumber
        rw [if_neg (by omega), if_neg (by omega), Int.toNat_natCast, Int.toNat_natCast]
        try rw [eR]
    · refine r_sipush hm rfl (k := ?_)
      refine r_ireturn hm rfl rfl (by rfl) (Nat.le_of_ble_eq_true rfl) (Nat.le_of_ble_eq_true rfl) ?_
      refine ⟨I, Sm.refl, ?_⟩
      unfold aNumber
      rw [if_neg (by omega), if_pos (by omega)]
  · refine r_sipush hm rfl (k := ?_)
    refine r_ireturn hm rfl rfl (by rfl) (Nat.le_of_ble_eq_true rfl) (Nat.le_of_ble_eq_true rfl) ?_
    refine ⟨I, Sm.refl, ?_⟩
    unfold aNumber
    rw [if_pos (by omega)]
set_option maxRecDepth 8000 in
theorem m_told {L : Nat} {h : Hp} {S : St} (I : InvM L h S) (ok : okS S) {i kI w : Int} (hi0 : inI i) (hk0 : inI kI) (hw0 : inI w) : RN 183 0 [some (.inr (.inr (some 1085))), some (.inl i), some (.inl kI), some (.inl w), none, none] [] h 0 0 (fun v h2 => InvM L h2 S ∧ FxM h h2 ∧ v = some (.inl (aTold S i kI w))) := by
  have hm : mrec 183 = some nM183 := rfl
  obtain ⟨g, hR, hV, hK, hG, hL, hB, hFl⟩ := id I
  have hok := ok.1
  obtain ⟨M0, M1, M2, M3, M4, Q0, Q1, Q2, S0, N0, N1⟩ := hR.use
  have n60 := hok.1
  have g1 := g
  have hR1 := hR
  have hH : 8 ≤ S.1.2.2.2 0 ∧ S.1.2.2.2 0 ≤ 60 := by have := hok.2.2.2.2; unfold okStl at this; omega
  refine r_aload_n hm rfl (k := ?_)
  refine r_iload_n hm rfl (k := ?_)
  refine r_callv (j2 := 165) hm rfl rfl rfl rfl rfl rfl (by first | assumption | exact (g1.1 _).trans rfl) (Nat.le_of_ble_eq_true rfl) (Nat.le_of_ble_eq_true rfl) rfl ⟨Nat.le_of_ble_eq_true rfl, Nat.le_of_ble_eq_true rfl, Nat.le_of_ble_eq_true rfl, Nat.le_of_ble_eq_true rfl, Nat.le_of_ble_eq_true rfl⟩ rfl (m_isItem g hR hi0) (fun v9 h9 p9 => ?_)
  obtain ⟨e1, e2⟩ := p9
  subst e2
  replace e1 := e1.symm
  subst e1
  obtain ⟨b9, eb9, hb9⟩ := ite01 (p := 0 ≤ i ∧ i < (S.1.1 : Int))
  rw [eb9]
  change RN 183 5 _ _ _ 0 0 _
  dsimp only [Option.toList, List.cons_append, List.nil_append]
  refine r_if_eq (t := 30) hm rfl rfl (fun c5 => ?_) (fun c5 => ?_)
  · refine r_sipush hm rfl (k := ?_)
    refine r_ireturn hm rfl rfl (by rfl) (Nat.le_of_ble_eq_true rfl) (Nat.le_of_ble_eq_true rfl) ?_
    refine ⟨I, Sm.refl, ?_⟩
    unfold aTold
    rw [if_pos (by omega)]
  · obtain ⟨q, rfl⟩ := Int.eq_ofNat_of_zero_le (show 0 ≤ i by omega)
    have hkq := hok.2.1 q (by omega)
    unfold okIt at hkq
    refine r_iload_n hm rfl (k := ?_)
    refine r_i2l hm rfl (k := ?_)
    refine r_lconst hm rfl (k := ?_)
    refine r_aload_n hm rfl (k := ?_)
    refine r_getR (hm := hm) (hf := rfl) (hd := rfl) (hs := (by first | assumption | exact (g1.1 _).trans rfl)) (hv := (by first | assumption | exact g1.2 _ _ _ rfl | exact M0 _ (by omega) | exact M1 _ (by omega) | exact M2 _ (by omega) | exact M3 _ (by omega) | exact M4 _ (by omega) | exact Q0 _ _ (by omega) (by omega) | exact Q1 _ _ (by omega) (by omega) | exact Q2 _ _ (by omega) (by omega) | exact yl.1 _ _ (by omega) (by omega) | exact (yL.2 _ _ (by omega) (by omega)).2 | exact (yL.2 _ _ (by omega) (by omega)).1 | exact yn.zero (by omega) (by omega))) (k := ?_)
    refine r_sipush hm rfl (k := ?_)
    refine r_iload_n hm rfl (k := ?_)
    refine r_iadd hm rfl (hr := (by omega)) (k := ?_)
    refine r_iald (hm := hm) (hf := rfl) (hs := (by first | assumption | exact (g1.1 _).trans rfl)) (kk := 60 * 3 + q) (hi := by omega) (hn := (by omega)) (hv := (by first | assumption | exact g1.2 _ _ _ rfl | exact M0 _ (by omega) | exact M1 _ (by omega) | exact M2 _ (by omega) | exact M3 _ (by omega) | exact M4 _ (by omega) | exact Q0 _ _ (by omega) (by omega) | exact Q1 _ _ (by omega) (by omega) | exact Q2 _ _ (by omega) (by omega) | exact yl.1 _ _ (by omega) (by omega) | exact (yL.2 _ _ (by omega) (by omega)).2 | exact (yL.2 _ _ (by omega) (by omega)).1 | exact yn.zero (by omega) (by omega))) (k := ?_)
    refine r_iconst hm rfl (k := ?_)
    refine r_isub hm rfl (hr := (by omega)) (k := ?_)
    refine r_i2l hm rfl (k := ?_)
    refine r_calls (j2 := 162) hm rfl rfl rfl rfl rfl rfl (Nat.le_of_ble_eq_true rfl) (Nat.le_of_ble_eq_true rfl) rfl ⟨Nat.le_of_ble_eq_true rfl, Nat.le_of_ble_eq_true rfl, Nat.le_of_ble_eq_true rfl, Nat.le_of_ble_eq_true rfl, Nat.le_of_ble_eq_true rfl⟩ rfl (m_in (z := kI) (a := 0) (b := S.1.2.1 4 q - 1) (zL_t hk0) rfl (zL_t ⟨by omega, by omega⟩)) (fun v9 h9 p9 => ?_)
    obtain ⟨e1, e2⟩ := p9
    subst e2
    replace e1 := e1.symm
    subst e1
    obtain ⟨b8, eb8, hb8⟩ := ite01 (p := (0 : Int) ≤ kI ∧ kI ≤ (S.1.2.1 4 q - 1 : Int))
    rw [eb8]
    change RN 183 27 _ _ _ 0 0 _
    dsimp only [Option.toList, List.cons_append, List.nil_append]
    refine r_if_ne (t := 34) hm rfl rfl (fun c27 => ?_) (fun c27 => ?_)
    · obtain ⟨k, rfl⟩ := Int.eq_ofNat_of_zero_le (show 0 ≤ kI by omega)
      obtain ⟨ep, ep2⟩ := pcs_eq hok (i := q) (by omega)
      have hzz := hok.2.2.1 q k (by omega) (by omega)
      unfold okPc at hzz
      refine r_iload_n hm rfl (k := ?_)
      refine r_i2l hm rfl (k := ?_)
      refine r_lconst hm rfl (k := ?_)
      refine r_ldc2 hm rfl (hd := rfl) (k := ?_)
      refine r_calls (j2 := 162) hm rfl rfl rfl rfl rfl rfl (Nat.le_of_ble_eq_true rfl) (Nat.le_of_ble_eq_true rfl) rfl ⟨Nat.le_of_ble_eq_true rfl, Nat.le_of_ble_eq_true rfl, Nat.le_of_ble_eq_true rfl, Nat.le_of_ble_eq_true rfl, Nat.le_of_ble_eq_true rfl⟩ rfl (m_in (z := w) (a := 0) (b := 7) (zL_t hw0) rfl rfl) (fun v9 h9 p9 => ?_)
      obtain ⟨e1, e2⟩ := p9
      subst e2
      replace e1 := e1.symm
      subst e1
      obtain ⟨b7, eb7, hb7⟩ := ite01 (p := (0 : Int) ≤ w ∧ w ≤ (7 : Int))
      rw [eb7]
      change RN 183 43 _ _ _ 0 0 _
      dsimp only [Option.toList, List.cons_append, List.nil_append]
      refine r_if_ne (t := 50) hm rfl rfl (fun c43 => ?_) (fun c43 => ?_)
      · refine r_aload_n hm rfl (k := ?_)
        refine r_callv (j2 := 184) hm rfl rfl rfl rfl rfl rfl (by first | assumption | exact (g1.1 _).trans rfl) (Nat.le_of_ble_eq_true rfl) (Nat.le_of_ble_eq_true rfl) rfl ⟨Nat.le_of_ble_eq_true rfl, Nat.le_of_ble_eq_true rfl, Nat.le_of_ble_eq_true rfl, Nat.le_of_ble_eq_true rfl, Nat.le_of_ble_eq_true rfl⟩ rfl (m_setNow I ok) (fun v9 hA p9 => ?_)
        obtain ⟨S1, yS, e1⟩ := p9
        subst e1
        replace g1 := S1.gg g
        replace hR1 := S1.repM (fun a k z => regM_R z) hR
        clear M0 M1 M2 M3 M4 Q0 Q1 Q2 S0 N0 N1
        obtain ⟨M0, M1, M2, M3, M4, Q0, Q1, Q2, S0, N0, N1⟩ := hR1.use
        obtain ⟨hc1, y35, y36, y37, y11, yP, yL, yl, yn, yN⟩ := id yS
        obtain ⟨v5, v6, v7, v8, vus, vfp, vlp, vwr⟩ := id yP
        have hlt := ltR_ok (H := S.1.2.2.2 0) hok (fin S.1 (S.1.2.2.2 0))
        obtain ⟨pk, pr, pw⟩ := psf_ok hok hlt hH
        have prg := pk.rng (TT_le hok (Nat.le_refl _))
        have flr := fin_le (x := S.1) (H := S.1.2.2.2 0)
        change RN 183 54 _ _ _ 0 0 _
        dsimp only [Option.toList, List.nil_append]
        refine r_aload_n hm rfl (k := ?_)
        refine r_iload_n hm rfl (k := ?_)
        refine r_iload_n hm rfl (k := ?_)
        refine r_callv (j2 := 186) hm rfl rfl rfl rfl rfl rfl (by first | assumption | exact (g1.1 _).trans rfl) (Nat.le_of_ble_eq_true rfl) (Nat.le_of_ble_eq_true rfl) rfl ⟨Nat.le_of_ble_eq_true rfl, Nat.le_of_ble_eq_true rfl, Nat.le_of_ble_eq_true rfl, Nat.le_of_ble_eq_true rfl, Nat.le_of_ble_eq_true rfl⟩ rfl (m_place g1 hc1 (by omega) hR1 (i := q) (k := k) (by omega) (by omega)) (fun v9 h9 p9 => ?_)
        obtain ⟨e1, e2⟩ := p9
        subst e2
        replace e1 := e1.symm
        subst e1
        change RN 183 60 _ _ _ 0 0 _
        dsimp only [Option.toList, List.cons_append, List.nil_append]
        refine r_istore hm rfl (k := ?_)
        refine r_bipush hm rfl (k := ?_)
        refine r_iload_n hm rfl (k := ?_)
        refine r_imul hm rfl (hr := (by omega)) (k := ?_)
        refine r_iload_n hm rfl (k := ?_)
        refine r_iadd hm rfl (hr := (by omega)) (k := ?_)
        refine r_istore hm rfl (k := ?_)
        refine r_iload_n hm rfl (k := ?_)
        by_cases s71_0 : w = 0
        · refine r_tsw hm rfl 112 (fun q => by omega) (fun q => ⟨41, by rw [s71_0]; rfl, rfl⟩) ?_
          refine r_aload_n hm rfl (k := ?_)
          refine r_getR (hm := hm) (hf := rfl) (hd := rfl) (hs := (by first | assumption | exact (g1.1 _).trans rfl)) (hv := (by first | assumption | exact g1.2 _ _ _ rfl | exact M0 _ (by omega) | exact M1 _ (by omega) | exact M2 _ (by omega) | exact M3 _ (by omega) | exact M4 _ (by omega) | exact Q0 _ _ (by omega) (by omega) | exact Q1 _ _ (by omega) (by omega) | exact Q2 _ _ (by omega) (by omega) | exact yl.1 _ _ (by omega) (by omega) | exact (yL.2 _ _ (by omega) (by omega)).2 | exact (yL.2 _ _ (by omega) (by omega)).1 | exact yn.zero (by omega) (by omega))) (k := ?_)
          refine r_iload hm rfl (k := ?_)
          refine r_iald (hm := hm) (hf := rfl) (hs := (by first | assumption | exact (g1.1 _).trans rfl)) (hi := rfl) (hn := (by omega)) (hv := (by first | assumption | exact g1.2 _ _ _ rfl | exact M0 _ (by omega) | exact M1 _ (by omega) | exact M2 _ (by omega) | exact M3 _ (by omega) | exact M4 _ (by omega) | exact Q0 _ _ (by omega) (by omega) | exact Q1 _ _ (by omega) (by omega) | exact Q2 _ _ (by omega) (by omega) | exact yl.1 _ _ (by omega) (by omega) | exact (yL.2 _ _ (by omega) (by omega)).2 | exact (yL.2 _ _ (by omega) (by omega)).1 | exact yn.zero (by omega) (by omega))) (k := ?_)
          refine r_ireturn hm rfl rfl (by rfl) (Nat.le_of_ble_eq_true rfl) (Nat.le_of_ble_eq_true rfl) ?_
          refine ⟨I.sm S1 (fun a k z => by unfold regM at z; unfold idleM; omega), S1.mono (fun a k z => by unfold regM at z; omega), ?_⟩
          unfold aTold
          rw [if_neg (by omega), if_neg (by rw [Int.toNat_natCast]; omega), if_pos (by omega)]
          try rfl
        by_cases s71_1 : w = 1
        · refine r_tsw hm rfl 120 (fun q => by omega) (fun q => ⟨49, by rw [s71_1]; rfl, rfl⟩) ?_
          refine r_aload_n hm rfl (k := ?_)
          refine r_getR (hm := hm) (hf := rfl) (hd := rfl) (hs := (by first | assumption | exact (g1.1 _).trans rfl)) (hv := (by first | assumption | exact g1.2 _ _ _ rfl | exact M0 _ (by omega) | exact M1 _ (by omega) | exact M2 _ (by omega) | exact M3 _ (by omega) | exact M4 _ (by omega) | exact Q0 _ _ (by omega) (by omega) | exact Q1 _ _ (by omega) (by omega) | exact Q2 _ _ (by omega) (by omega) | exact yl.1 _ _ (by omega) (by omega) | exact (yL.2 _ _ (by omega) (by omega)).2 | exact (yL.2 _ _ (by omega) (by omega)).1 | exact yn.zero (by omega) (by omega))) (k := ?_)
          refine r_iload hm rfl (k := ?_)
          refine r_iald (hm := hm) (hf := rfl) (hs := (by first | assumption | exact (g1.1 _).trans rfl)) (hi := rfl) (hn := (by omega)) (hv := (by first | assumption | exact g1.2 _ _ _ rfl | exact M0 _ (by omega) | exact M1 _ (by omega) | exact M2 _ (by omega) | exact M3 _ (by omega) | exact M4 _ (by omega) | exact Q0 _ _ (by omega) (by omega) | exact Q1 _ _ (by omega) (by omega) | exact Q2 _ _ (by omega) (by omega) | exact yl.1 _ _ (by omega) (by omega) | exact (yL.2 _ _ (by omega) (by omega)).2 | exact (yL.2 _ _ (by omega) (by omega)).1 | exact yn.zero (by omega) (by omega))) (k := ?_)
          refine r_ireturn hm rfl rfl (by rfl) (Nat.le_of_ble_eq_true rfl) (Nat.le_of_ble_eq_true rfl) ?_
          refine ⟨I.sm S1 (fun a k z => by unfold regM at z; unfold idleM; omega), S1.mono (fun a k z => by unfold regM at z; omega), ?_⟩
          unfold aTold
          rw [if_neg (by omega), if_neg (by rw [Int.toNat_natCast]; omega), if_neg (by omega), if_pos (by omega)]
          try rfl
        by_cases s71_2 : w = 2
        · refine r_tsw hm rfl 128 (fun q => by omega) (fun q => ⟨57, by rw [s71_2]; rfl, rfl⟩) ?_
          refine r_aload_n hm rfl (k := ?_)
          refine r_getR (hm := hm) (hf := rfl) (hd := rfl) (hs := (by first | assumption | exact (g1.1 _).trans rfl)) (hv := (by first | assumption | exact g1.2 _ _ _ rfl | exact M0 _ (by omega) | exact M1 _ (by omega) | exact M2 _ (by omega) | exact M3 _ (by omega) | exact M4 _ (by omega) | exact Q0 _ _ (by omega) (by omega) | exact Q1 _ _ (by omega) (by omega) | exact Q2 _ _ (by omega) (by omega) | exact yl.1 _ _ (by omega) (by omega) | exact (yL.2 _ _ (by omega) (by omega)).2 | exact (yL.2 _ _ (by omega) (by omega)).1 | exact yn.zero (by omega) (by omega))) (k := ?_)
          refine r_iload hm rfl (k := ?_)
          refine r_iald (hm := hm) (hf := rfl) (hs := (by first | assumption | exact (g1.1 _).trans rfl)) (hi := rfl) (hn := (by omega)) (hv := (by first | assumption | exact g1.2 _ _ _ rfl | exact M0 _ (by omega) | exact M1 _ (by omega) | exact M2 _ (by omega) | exact M3 _ (by omega) | exact M4 _ (by omega) | exact Q0 _ _ (by omega) (by omega) | exact Q1 _ _ (by omega) (by omega) | exact Q2 _ _ (by omega) (by omega) | exact yl.1 _ _ (by omega) (by omega) | exact (yL.2 _ _ (by omega) (by omega)).2 | exact (yL.2 _ _ (by omega) (by omega)).1 | exact yn.zero (by omega) (by omega))) (k := ?_)
          refine r_ireturn hm rfl rfl (by rfl) (Nat.le_of_ble_eq_true rfl) (Nat.le_of_ble_eq_true rfl) ?_
          refine ⟨I.sm S1 (fun a k z => by unfold regM at z; unfold idleM; omega), S1.mono (fun a k z => by unfold regM at z; omega), ?_⟩
          unfold aTold
          rw [if_neg (by omega), if_neg (by rw [Int.toNat_natCast]; omega), if_neg (by omega), if_neg (by omega), if_pos (by omega)]
          try rfl
        by_cases s71_3 : w = 3
        · refine r_tsw hm rfl 136 (fun q => by omega) (fun q => ⟨65, by rw [s71_3]; rfl, rfl⟩) ?_
          refine r_aload_n hm rfl (k := ?_)
          refine r_getR (hm := hm) (hf := rfl) (hd := rfl) (hs := (by first | assumption | exact (g1.1 _).trans rfl)) (hv := (by first | assumption | exact g1.2 _ _ _ rfl | exact M0 _ (by omega) | exact M1 _ (by omega) | exact M2 _ (by omega) | exact M3 _ (by omega) | exact M4 _ (by omega) | exact Q0 _ _ (by omega) (by omega) | exact Q1 _ _ (by omega) (by omega) | exact Q2 _ _ (by omega) (by omega) | exact yl.1 _ _ (by omega) (by omega) | exact (yL.2 _ _ (by omega) (by omega)).2 | exact (yL.2 _ _ (by omega) (by omega)).1 | exact yn.zero (by omega) (by omega))) (k := ?_)
          refine r_iload hm rfl (k := ?_)
          refine r_iald (hm := hm) (hf := rfl) (hs := (by first | assumption | exact (g1.1 _).trans rfl)) (hi := rfl) (hn := (by omega)) (hv := (by first | assumption | exact g1.2 _ _ _ rfl | exact M0 _ (by omega) | exact M1 _ (by omega) | exact M2 _ (by omega) | exact M3 _ (by omega) | exact M4 _ (by omega) | exact Q0 _ _ (by omega) (by omega) | exact Q1 _ _ (by omega) (by omega) | exact Q2 _ _ (by omega) (by omega) | exact yl.1 _ _ (by omega) (by omega) | exact (yL.2 _ _ (by omega) (by omega)).2 | exact (yL.2 _ _ (by omega) (by omega)).1 | exact yn.zero (by omega) (by omega))) (k := ?_)
          refine r_iconst hm rfl (k := ?_)
          refine r_icmp_ne (t := 161) hm rfl rfl (fun c144 => ?_) (fun c144 => ?_)
          · refine r_iconst hm rfl (k := ?_)
            refine r_ireturn hm rfl rfl (by rfl) (Nat.le_of_ble_eq_true rfl) (Nat.le_of_ble_eq_true rfl) ?_
            refine ⟨I.sm S1 (fun a k z => by unfold regM at z; unfold idleM; omega), S1.mono (fun a k z => by unfold regM at z; omega), ?_⟩
            unfold aTold
            rw [if_neg (by omega), if_neg (by rw [Int.toNat_natCast]; omega), if_neg (by omega), if_neg (by omega), if_neg (by omega), if_pos (by omega)]
            rw [Int.toNat_natCast, Int.toNat_natCast]
            unfold mnt
            rw [if_neg (by omega)]
          · refine r_aload_n hm rfl (k := ?_)
            refine r_aload_n hm rfl (k := ?_)
            refine r_getR (hm := hm) (hf := rfl) (hd := rfl) (hs := (by first | assumption | exact (g1.1 _).trans rfl)) (hv := (by first | assumption | exact g1.2 _ _ _ rfl | exact M0 _ (by omega) | exact M1 _ (by omega) | exact M2 _ (by omega) | exact M3 _ (by omega) | exact M4 _ (by omega) | exact Q0 _ _ (by omega) (by omega) | exact Q1 _ _ (by omega) (by omega) | exact Q2 _ _ (by omega) (by omega) | exact yl.1 _ _ (by omega) (by omega) | exact (yL.2 _ _ (by omega) (by omega)).2 | exact (yL.2 _ _ (by omega) (by omega)).1 | exact yn.zero (by omega) (by omega))) (k := ?_)
            refine r_iload hm rfl (k := ?_)
            refine r_iald (hm := hm) (hf := rfl) (hs := (by first | assumption | exact (g1.1 _).trans rfl)) (hi := rfl) (hn := (by omega)) (hv := (by first | assumption | exact g1.2 _ _ _ rfl | exact M0 _ (by omega) | exact M1 _ (by omega) | exact M2 _ (by omega) | exact M3 _ (by omega) | exact M4 _ (by omega) | exact Q0 _ _ (by omega) (by omega) | exact Q1 _ _ (by omega) (by omega) | exact Q2 _ _ (by omega) (by omega) | exact yl.1 _ _ (by omega) (by omega) | exact (yL.2 _ _ (by omega) (by omega)).2 | exact (yL.2 _ _ (by omega) (by omega)).1 | exact yn.zero (by omega) (by omega))) (k := ?_)
            refine r_callv (j2 := 199) hm rfl rfl rfl rfl rfl rfl (by first | assumption | exact (g1.1 _).trans rfl) (Nat.le_of_ble_eq_true rfl) (Nat.le_of_ble_eq_true rfl) rfl ⟨Nat.le_of_ble_eq_true rfl, Nat.le_of_ble_eq_true rfl, Nat.le_of_ble_eq_true rfl, Nat.le_of_ble_eq_true rfl, Nat.le_of_ble_eq_true rfl⟩ rfl (m_meant g1 hc1 (by omega) hR1 (m := S.1.2.2.1 1 q k) (by omega)) (fun v9 h9 p9 => ?_)
            obtain ⟨e1, e2⟩ := p9
            subst e2
            replace e1 := e1.symm
            subst e1
            change RN 183 158 _ _ _ 0 0 _
            dsimp only [Option.toList, List.cons_append, List.nil_append]
            refine r_goto (t := 162) hm rfl (k := ?_)
            refine r_ireturn hm rfl rfl (by rfl) (Nat.le_of_ble_eq_true rfl) (Nat.le_of_ble_eq_true rfl) ?_
            refine ⟨I.sm S1 (fun a k z => by unfold regM at z; unfold idleM; omega), S1.mono (fun a k z => by unfold regM at z; omega), ?_⟩
            unfold aTold
            rw [if_neg (by omega), if_neg (by rw [Int.toNat_natCast]; omega), if_neg (by omega), if_neg (by omega), if_neg (by omega), if_pos (by omega)]
            rw [Int.toNat_natCast, Int.toNat_natCast]
            unfold mnt
            rw [if_pos (by omega)]
        by_cases s71_4 : w = 4
        · refine r_tsw hm rfl 163 (fun q => by omega) (fun q => ⟨92, by rw [s71_4]; rfl, rfl⟩) ?_
          refine r_aload_n hm rfl (k := ?_)
          refine r_getR (hm := hm) (hf := rfl) (hd := rfl) (hs := (by first | assumption | exact (g1.1 _).trans rfl)) (hv := (by first | assumption | exact g1.2 _ _ _ rfl | exact M0 _ (by omega) | exact M1 _ (by omega) | exact M2 _ (by omega) | exact M3 _ (by omega) | exact M4 _ (by omega) | exact Q0 _ _ (by omega) (by omega) | exact Q1 _ _ (by omega) (by omega) | exact Q2 _ _ (by omega) (by omega) | exact yl.1 _ _ (by omega) (by omega) | exact (yL.2 _ _ (by omega) (by omega)).2 | exact (yL.2 _ _ (by omega) (by omega)).1 | exact yn.zero (by omega) (by omega))) (k := ?_)
          refine r_sipush hm rfl (k := ?_)
          refine r_aload_n hm rfl (k := ?_)
          refine r_getI (hm := hm) (hf := rfl) (hd := rfl) (hs := (by first | assumption | exact (g1.1 _).trans rfl)) (hv := (by first | assumption | exact g1.2 _ _ _ rfl | exact M0 _ (by omega) | exact M1 _ (by omega) | exact M2 _ (by omega) | exact M3 _ (by omega) | exact M4 _ (by omega) | exact Q0 _ _ (by omega) (by omega) | exact Q1 _ _ (by omega) (by omega) | exact Q2 _ _ (by omega) (by omega) | exact yl.1 _ _ (by omega) (by omega) | exact (yL.2 _ _ (by omega) (by omega)).2 | exact (yL.2 _ _ (by omega) (by omega)).1 | exact yn.zero (by omega) (by omega))) (k := ?_)
          refine r_imul hm rfl (hr := (by omega)) (k := ?_)
          refine r_iload hm rfl (k := ?_)
          refine r_iadd hm rfl (hr := (by omega)) (k := ?_)
          refine r_iald (hm := hm) (hf := rfl) (hs := (by first | assumption | exact (g1.1 _).trans rfl)) (kk := 1200 * fin S.1 (S.1.2.2.2 0) + 20 * q + k) (hi := by omega) (hn := (by omega)) (hv := (by first | assumption | exact g1.2 _ _ _ rfl | exact M0 _ (by omega) | exact M1 _ (by omega) | exact M2 _ (by omega) | exact M3 _ (by omega) | exact M4 _ (by omega) | exact Q0 _ _ (by omega) (by omega) | exact Q1 _ _ (by omega) (by omega) | exact Q2 _ _ (by omega) (by omega) | exact yl.1 _ _ (by omega) (by omega) | exact (yL.2 _ _ (by omega) (by omega)).2 | exact (yL.2 _ _ (by omega) (by omega)).1 | exact yn.zero (by omega) (by omega))) (k := ?_)
          refine r_ireturn hm rfl rfl (by rfl) (Nat.le_of_ble_eq_true rfl) (Nat.le_of_ble_eq_true rfl) ?_
          refine ⟨I.sm S1 (fun a k z => by unfold regM at z; unfold idleM; omega), S1.mono (fun a k z => by unfold regM at z; omega), ?_⟩
          unfold aTold
          rw [if_neg (by omega), if_neg (by rw [Int.toNat_natCast]; omega), if_neg (by omega), if_neg (by omega), if_neg (by omega), if_neg (by omega), if_pos (by omega)]
          try rfl
        by_cases s71_5 : w = 5
        · refine r_tsw hm rfl 180 (fun q => by omega) (fun q => ⟨109, by rw [s71_5]; rfl, rfl⟩) ?_
          refine r_aload_n hm rfl (k := ?_)
          refine r_getR (hm := hm) (hf := rfl) (hd := rfl) (hs := (by first | assumption | exact (g1.1 _).trans rfl)) (hv := (by first | assumption | exact g1.2 _ _ _ rfl | exact M0 _ (by omega) | exact M1 _ (by omega) | exact M2 _ (by omega) | exact M3 _ (by omega) | exact M4 _ (by omega) | exact Q0 _ _ (by omega) (by omega) | exact Q1 _ _ (by omega) (by omega) | exact Q2 _ _ (by omega) (by omega) | exact yl.1 _ _ (by omega) (by omega) | exact (yL.2 _ _ (by omega) (by omega)).2 | exact (yL.2 _ _ (by omega) (by omega)).1 | exact yn.zero (by omega) (by omega))) (k := ?_)
          refine r_iload hm rfl (k := ?_)
          refine r_iald (hm := hm) (hf := rfl) (hs := (by first | assumption | exact (g1.1 _).trans rfl)) (kk := 20 * q + k) (hi := by omega) (hn := (by omega)) (hv := (by first | assumption | exact g1.2 _ _ _ rfl | exact M0 _ (by omega) | exact M1 _ (by omega) | exact M2 _ (by omega) | exact M3 _ (by omega) | exact M4 _ (by omega) | exact Q0 _ _ (by omega) (by omega) | exact Q1 _ _ (by omega) (by omega) | exact Q2 _ _ (by omega) (by omega) | exact yl.1 _ _ (by omega) (by omega) | exact (yL.2 _ _ (by omega) (by omega)).2 | exact (yL.2 _ _ (by omega) (by omega)).1 | exact yn.zero (by omega) (by omega))) (k := ?_)
          refine r_ireturn hm rfl rfl (by rfl) (Nat.le_of_ble_eq_true rfl) (Nat.le_of_ble_eq_true rfl) ?_
          refine ⟨I.sm S1 (fun a k z => by unfold regM at z; unfold idleM; omega), S1.mono (fun a k z => by unfold regM at z; omega), ?_⟩
          unfold aTold
          rw [if_neg (by omega), if_neg (by rw [Int.toNat_natCast]; omega), if_neg (by omega), if_neg (by omega), if_neg (by omega), if_neg (by omega), if_neg (by omega), if_pos (by omega)]
          try rfl
        by_cases s71_6 : w = 6
        · refine r_tsw hm rfl 188 (fun q => by omega) (fun q => ⟨117, by rw [s71_6]; rfl, rfl⟩) ?_
          refine r_aload_n hm rfl (k := ?_)
          refine r_getR (hm := hm) (hf := rfl) (hd := rfl) (hs := (by first | assumption | exact (g1.1 _).trans rfl)) (hv := (by first | assumption | exact g1.2 _ _ _ rfl | exact M0 _ (by omega) | exact M1 _ (by omega) | exact M2 _ (by omega) | exact M3 _ (by omega) | exact M4 _ (by omega) | exact Q0 _ _ (by omega) (by omega) | exact Q1 _ _ (by omega) (by omega) | exact Q2 _ _ (by omega) (by omega) | exact yl.1 _ _ (by omega) (by omega) | exact (yL.2 _ _ (by omega) (by omega)).2 | exact (yL.2 _ _ (by omega) (by omega)).1 | exact yn.zero (by omega) (by omega))) (k := ?_)
          refine r_iload hm rfl (k := ?_)
          refine r_iald (hm := hm) (hf := rfl) (hs := (by first | assumption | exact (g1.1 _).trans rfl)) (kk := 20 * q + k) (hi := by omega) (hn := (by omega)) (hv := (by first | assumption | exact g1.2 _ _ _ rfl | exact M0 _ (by omega) | exact M1 _ (by omega) | exact M2 _ (by omega) | exact M3 _ (by omega) | exact M4 _ (by omega) | exact Q0 _ _ (by omega) (by omega) | exact Q1 _ _ (by omega) (by omega) | exact Q2 _ _ (by omega) (by omega) | exact yl.1 _ _ (by omega) (by omega) | exact (yL.2 _ _ (by omega) (by omega)).2 | exact (yL.2 _ _ (by omega) (by omega)).1 | exact yn.zero (by omega) (by omega))) (k := ?_)
          refine r_ireturn hm rfl rfl (by rfl) (Nat.le_of_ble_eq_true rfl) (Nat.le_of_ble_eq_true rfl) ?_
          refine ⟨I.sm S1 (fun a k z => by unfold regM at z; unfold idleM; omega), S1.mono (fun a k z => by unfold regM at z; omega), ?_⟩
          unfold aTold
          rw [if_neg (by omega), if_neg (by rw [Int.toNat_natCast]; omega), if_neg (by omega), if_neg (by omega), if_neg (by omega), if_neg (by omega), if_neg (by omega), if_neg (by omega), if_pos (by omega)]
          try rfl
        refine r_tsw hm rfl 196 (fun q => rfl) (fun q => by exfalso; omega) ?_
        refine r_aload_n hm rfl (k := ?_)
        refine r_getR (hm := hm) (hf := rfl) (hd := rfl) (hs := (by first | assumption | exact (g1.1 _).trans rfl)) (hv := (by first | assumption | exact g1.2 _ _ _ rfl | exact M0 _ (by omega) | exact M1 _ (by omega) | exact M2 _ (by omega) | exact M3 _ (by omega) | exact M4 _ (by omega) | exact Q0 _ _ (by omega) (by omega) | exact Q1 _ _ (by omega) (by omega) | exact Q2 _ _ (by omega) (by omega) | exact yl.1 _ _ (by omega) (by omega) | exact (yL.2 _ _ (by omega) (by omega)).2 | exact (yL.2 _ _ (by omega) (by omega)).1 | exact yn.zero (by omega) (by omega))) (k := ?_)
        refine r_iload hm rfl (k := ?_)
        refine r_iald (hm := hm) (hf := rfl) (hs := (by first | assumption | exact (g1.1 _).trans rfl)) (kk := 20 * q + k) (hi := by omega) (hn := (by omega)) (hv := (by first | assumption | exact g1.2 _ _ _ rfl | exact M0 _ (by omega) | exact M1 _ (by omega) | exact M2 _ (by omega) | exact M3 _ (by omega) | exact M4 _ (by omega) | exact Q0 _ _ (by omega) (by omega) | exact Q1 _ _ (by omega) (by omega) | exact Q2 _ _ (by omega) (by omega) | exact yl.1 _ _ (by omega) (by omega) | exact (yL.2 _ _ (by omega) (by omega)).2 | exact (yL.2 _ _ (by omega) (by omega)).1 | exact yn.zero (by omega) (by omega))) (k := ?_)
        refine r_ireturn hm rfl rfl (by rfl) (Nat.le_of_ble_eq_true rfl) (Nat.le_of_ble_eq_true rfl) ?_
        refine ⟨I.sm S1 (fun a k z => by unfold regM at z; unfold idleM; omega), S1.mono (fun a k z => by unfold regM at z; omega), ?_⟩
        unfold aTold
        rw [if_neg (by omega), if_neg (by rw [Int.toNat_natCast]; omega), if_neg (by omega), if_neg (by omega), if_neg (by omega), if_neg (by omega), if_neg (by omega), if_neg (by omega), if_neg (by omega), if_pos (by omega)]
        try rfl
      · refine r_sipush hm rfl (k := ?_)
        refine r_ireturn hm rfl rfl (by rfl) (Nat.le_of_ble_eq_true rfl) (Nat.le_of_ble_eq_true rfl) ?_
        refine ⟨I, Sm.refl, ?_⟩
        unfold aTold
        rw [if_neg (by omega), if_neg (by rw [Int.toNat_natCast]; omega), if_neg (by omega), if_neg (by omega), if_neg (by omega), if_neg (by omega), if_neg (by omega), if_neg (by omega), if_neg (by omega), if_neg (by omega)]
    · refine r_sipush hm rfl (k := ?_)
      refine r_ireturn hm rfl rfl (by rfl) (Nat.le_of_ble_eq_true rfl) (Nat.le_of_ble_eq_true rfl) ?_
      refine ⟨I, Sm.refl, ?_⟩
      unfold aTold
      rw [if_neg (by omega), Int.toNat_natCast, if_pos (by omega)]
theorem sm_one : ∀ (d i : Nat), sm (fun _ => (1 : Int)) i d = (d : Int) := by
  intro d
  induction d with
  | zero => intro i; rfl
  | succ d ih => intro i; unfold sm; rw [ih (i + 1)]; omega
theorem cpk_all {x : Tx} (hok : okTx x) : sm (fun i => sm (fun k => if (-1 : Int) < 0 ∨ x.2.2.1 0 i k = -1 then (1 : Int) else 0) 0 (pcs x i)) 0 x.1 = sm (x.2.1 4) 0 x.1 := by
  refine sm_congr _ _ (fun i _ hi => ?_)
  rw [sm_congr (f2 := fun _ => 1) _ _ (fun k _ _ => if_pos (Or.inl (by omega))), sm_one]
  exact (pcs_eq hok (by omega)).1
theorem cpk_kd {x : Tx} {kd : Int} (h : 0 ≤ kd) : sm (fun i => sm (fun k => if kd < 0 ∨ x.2.2.1 0 i k = kd then (1 : Int) else 0) 0 (pcs x i)) 0 x.1 = cpk x kd := by
  refine sm_congr _ _ (fun i _ hi => sm_congr _ _ (fun k _ _ => ?_))
  by_cases e : x.2.2.1 0 i k = kd
  · rw [if_pos (Or.inr e), if_pos e]
  · rw [if_neg (by omega), if_neg e]
set_option maxRecDepth 8000 in
theorem m_count {L : Nat} {h : Hp} {S : St} (I : InvM L h S) (ok : okS S) {w : Int} : RN 201 0 [some (.inr (.inr (some 1085))), some (.inl w)] [] h 0 0 (fun v h2 => InvM L h2 S ∧ FxM h h2 ∧ v = some (.inl (aCount S w))) := by
  have hm : mrec 201 = some nM201 := rfl
  obtain ⟨g, hR, hV, hK, hG, hL, hB, hFl⟩ := id I
  have hok := ok.1
  obtain ⟨M0, M1, M2, M3, M4, Q0, Q1, Q2, S0, N0, N1⟩ := hR.use
  have n60 := hok.1
  have g1 := g
  have hR1 := hR
  have hH : 8 ≤ S.1.2.2.2 0 ∧ S.1.2.2.2 0 ≤ 60 := by have := hok.2.2.2.2; unfold okStl at this; omega
  refine r_aload_n hm rfl (k := ?_)
  refine r_iconst hm rfl (k := ?_)
  refine r_putI (hm := hm) (hf := rfl) (hd := rfl) (hs := (by first | assumption | exact (g1.1 _).trans rfl)) (hfin := Or.inl rfl) (hz := fun q9 => absurd q9 (by decide)) (k := ?_)
  refine RN.abs (fun h1 => Sm regM h h1 ∧ h1.2.1 1085 12 = ((3 : Nat) : Int)) ⟨Sm.put Sm.refl (by unfold regM; omega), putI_eq⟩ (fun h1 H9 => ?_)
  obtain ⟨S1, hc1⟩ := H9
  replace g1 := S1.gg g
  replace hR1 := S1.repM (fun a k z => regM_R z) hR
  clear M0 M1 M2 M3 M4 Q0 Q1 Q2 S0 N0 N1
  obtain ⟨M0, M1, M2, M3, M4, Q0, Q1, Q2, S0, N0, N1⟩ := hR1.use
  refine r_iload_n hm rfl (k := ?_)
  by_cases s6_0 : w = 0
  · refine r_tsw hm rfl 60 (fun q => by omega) (fun q => ⟨54, by rw [s6_0]; rfl, rfl⟩) ?_
    refine r_aload_n hm rfl (k := ?_)
    refine r_getR (hm := hm) (hf := rfl) (hd := rfl) (hs := (by first | assumption | exact (g1.1 _).trans rfl)) (hv := (by first | assumption | exact g1.2 _ _ _ rfl | exact (S1.2.2 _ _ (by unfold regM; omega)).trans hG | exact (S1.2.2 _ _ (by unfold regM; omega)).trans hL)) (k := ?_)
    refine r_iconst hm rfl (k := ?_)
    refine r_iald (hm := hm) (hf := rfl) (hs := (by first | assumption | exact (g1.1 _).trans rfl)) (kk := 3) (hi := by omega) (hn := (by omega)) (hv := (by first | assumption | exact g1.2 _ _ _ rfl | exact (S1.2.2 _ _ (by unfold regM; omega)).trans hG | exact (S1.2.2 _ _ (by unfold regM; omega)).trans hL)) (k := ?_)
    refine r_ireturn hm rfl rfl (by rfl) (Nat.le_of_ble_eq_true rfl) (Nat.le_of_ble_eq_true rfl) ?_
    refine ⟨I.sm S1 (fun a k z => by unfold regM at z; unfold idleM; omega), S1.mono (fun a k z => by unfold regM at z; omega), ?_⟩
    unfold aCount
    rw [if_pos (by omega)]
    try rfl
  by_cases s6_1 : w = 1
  · refine r_tsw hm rfl 67 (fun q => by omega) (fun q => ⟨61, by rw [s6_1]; rfl, rfl⟩) ?_
    refine r_aload_n hm rfl (k := ?_)
    refine r_getI (hm := hm) (hf := rfl) (hd := rfl) (hs := (by first | assumption | exact (g1.1 _).trans rfl)) (hv := (by first | assumption | exact g1.2 _ _ _ rfl | exact (S1.2.2 _ _ (by unfold regM; omega)).trans hG | exact (S1.2.2 _ _ (by unfold regM; omega)).trans hL)) (k := ?_)
    refine r_ireturn hm rfl rfl (by rfl) (Nat.le_of_ble_eq_true rfl) (Nat.le_of_ble_eq_true rfl) ?_
    refine ⟨I.sm S1 (fun a k z => by unfold regM at z; unfold idleM; omega), S1.mono (fun a k z => by unfold regM at z; omega), ?_⟩
    unfold aCount
    rw [if_neg (by omega), if_pos (by omega)]
    try rfl
  by_cases s6_2 : w = 2
  · refine r_tsw hm rfl 72 (fun q => by omega) (fun q => ⟨66, by rw [s6_2]; rfl, rfl⟩) ?_
    have qP0 := m_piecesThat g1 hc1 hR1 hok (kd := -1)
    rw [cpk_all hok] at qP0
    refine r_aload_n hm rfl (k := ?_)
    refine r_iconst hm rfl (k := ?_)
    refine r_callv (j2 := 202) hm rfl rfl rfl rfl rfl rfl (by first | assumption | exact (g1.1 _).trans rfl) (Nat.le_of_ble_eq_true rfl) (Nat.le_of_ble_eq_true rfl) rfl ⟨Nat.le_of_ble_eq_true rfl, Nat.le_of_ble_eq_true rfl, Nat.le_of_ble_eq_true rfl, Nat.le_of_ble_eq_true rfl, Nat.le_of_ble_eq_true rfl⟩ rfl (qP0) (fun v9 h9 p9 => ?_)
    obtain ⟨e1, e2⟩ := p9
    subst e2
    replace e1 := e1.symm
    subst e1
    change RN 201 77 _ _ _ 0 0 _
    dsimp only [Option.toList, List.cons_append, List.nil_append]
    refine r_ireturn hm rfl rfl (by rfl) (Nat.le_of_ble_eq_true rfl) (Nat.le_of_ble_eq_true rfl) ?_
    refine ⟨I.sm S1 (fun a k z => by unfold regM at z; unfold idleM; omega), S1.mono (fun a k z => by unfold regM at z; omega), ?_⟩
    unfold aCount
    rw [if_neg (by omega), if_neg (by omega), if_pos (by omega)]
    try rfl
  by_cases s6_3 : w = 3
  · refine r_tsw hm rfl 78 (fun q => by omega) (fun q => ⟨72, by rw [s6_3]; rfl, rfl⟩) ?_
    have qP1 := m_piecesThat g1 hc1 hR1 hok (kd := 1)
    rw [cpk_kd (by omega)] at qP1
    refine r_aload_n hm rfl (k := ?_)
    refine r_iconst hm rfl (k := ?_)
    refine r_callv (j2 := 202) hm rfl rfl rfl rfl rfl rfl (by first | assumption | exact (g1.1 _).trans rfl) (Nat.le_of_ble_eq_true rfl) (Nat.le_of_ble_eq_true rfl) rfl ⟨Nat.le_of_ble_eq_true rfl, Nat.le_of_ble_eq_true rfl, Nat.le_of_ble_eq_true rfl, Nat.le_of_ble_eq_true rfl, Nat.le_of_ble_eq_true rfl⟩ rfl (qP1) (fun v9 h9 p9 => ?_)
    obtain ⟨e1, e2⟩ := p9
    subst e2
    replace e1 := e1.symm
    subst e1
    change RN 201 83 _ _ _ 0 0 _
    dsimp only [Option.toList, List.cons_append, List.nil_append]
    refine r_ireturn hm rfl rfl (by rfl) (Nat.le_of_ble_eq_true rfl) (Nat.le_of_ble_eq_true rfl) ?_
    refine ⟨I.sm S1 (fun a k z => by unfold regM at z; unfold idleM; omega), S1.mono (fun a k z => by unfold regM at z; omega), ?_⟩
    unfold aCount
    rw [if_neg (by omega), if_neg (by omega), if_neg (by omega), if_pos (by omega)]
    try rfl
  by_cases s6_4 : w = 4
  · refine r_tsw hm rfl 84 (fun q => by omega) (fun q => ⟨78, by rw [s6_4]; rfl, rfl⟩) ?_
    refine r_aload_n hm rfl (k := ?_)
    refine r_callv (j2 := 203) hm rfl rfl rfl rfl rfl rfl (by first | assumption | exact (g1.1 _).trans rfl) (Nat.le_of_ble_eq_true rfl) (Nat.le_of_ble_eq_true rfl) rfl ⟨Nat.le_of_ble_eq_true rfl, Nat.le_of_ble_eq_true rfl, Nat.le_of_ble_eq_true rfl, Nat.le_of_ble_eq_true rfl, Nat.le_of_ble_eq_true rfl⟩ rfl (m_vain g1 hc1 hR1 hok) (fun v9 h9 p9 => ?_)
    obtain ⟨e1, e2⟩ := p9
    subst e2
    replace e1 := e1.symm
    subst e1
    change RN 201 88 _ _ _ 0 0 _
    dsimp only [Option.toList, List.cons_append, List.nil_append]
    refine r_ireturn hm rfl rfl (by rfl) (Nat.le_of_ble_eq_true rfl) (Nat.le_of_ble_eq_true rfl) ?_
    refine ⟨I.sm S1 (fun a k z => by unfold regM at z; unfold idleM; omega), S1.mono (fun a k z => by unfold regM at z; omega), ?_⟩
    unfold aCount
    rw [if_neg (by omega), if_neg (by omega), if_neg (by omega), if_neg (by omega), if_pos (by omega)]
    try rfl
  by_cases s6_5 : w = 5
  · refine r_tsw hm rfl 89 (fun q => by omega) (fun q => ⟨83, by rw [s6_5]; rfl, rfl⟩) ?_
    refine r_aload_n hm rfl (k := ?_)
    refine r_callv (j2 := 204) hm rfl rfl rfl rfl rfl rfl (by first | assumption | exact (g1.1 _).trans rfl) (Nat.le_of_ble_eq_true rfl) (Nat.le_of_ble_eq_true rfl) rfl ⟨Nat.le_of_ble_eq_true rfl, Nat.le_of_ble_eq_true rfl, Nat.le_of_ble_eq_true rfl, Nat.le_of_ble_eq_true rfl, Nat.le_of_ble_eq_true rfl⟩ rfl (m_doubled g1 hc1 hR1 hok) (fun v9 h9 p9 => ?_)
    obtain ⟨e1, e2⟩ := p9
    subst e2
    replace e1 := e1.symm
    subst e1
    change RN 201 93 _ _ _ 0 0 _
    dsimp only [Option.toList, List.cons_append, List.nil_append]
    refine r_ireturn hm rfl rfl (by rfl) (Nat.le_of_ble_eq_true rfl) (Nat.le_of_ble_eq_true rfl) ?_
    refine ⟨I.sm S1 (fun a k z => by unfold regM at z; unfold idleM; omega), S1.mono (fun a k z => by unfold regM at z; omega), ?_⟩
    unfold aCount
    rw [if_neg (by omega), if_neg (by omega), if_neg (by omega), if_neg (by omega), if_neg (by omega), if_pos (by omega)]
    try rfl
  by_cases s6_6 : w = 6
  · refine r_tsw hm rfl 94 (fun q => by omega) (fun q => ⟨88, by rw [s6_6]; rfl, rfl⟩) ?_
    refine r_aload_n hm rfl (k := ?_)
    refine r_iconst hm rfl (k := ?_)
    refine r_callv (j2 := 205) hm rfl rfl rfl rfl rfl rfl (by first | assumption | exact (g1.1 _).trans rfl) (Nat.le_of_ble_eq_true rfl) (Nat.le_of_ble_eq_true rfl) rfl ⟨Nat.le_of_ble_eq_true rfl, Nat.le_of_ble_eq_true rfl, Nat.le_of_ble_eq_true rfl, Nat.le_of_ble_eq_true rfl, Nat.le_of_ble_eq_true rfl⟩ rfl (m_lonely g1 hc1 hR1 hok) (fun v9 h9 p9 => ?_)
    obtain ⟨e1, e2⟩ := p9
    subst e2
    replace e1 := e1.symm
    subst e1
    change RN 201 99 _ _ _ 0 0 _
    dsimp only [Option.toList, List.cons_append, List.nil_append]
    refine r_ireturn hm rfl rfl (by rfl) (Nat.le_of_ble_eq_true rfl) (Nat.le_of_ble_eq_true rfl) ?_
    refine ⟨I.sm S1 (fun a k z => by unfold regM at z; unfold idleM; omega), S1.mono (fun a k z => by unfold regM at z; omega), ?_⟩
    unfold aCount
    rw [if_neg (by omega), if_neg (by omega), if_neg (by omega), if_neg (by omega), if_neg (by omega), if_neg (by omega), if_pos (by omega)]
    try rfl
  by_cases s6_7 : w = 7
  · refine r_tsw hm rfl 100 (fun q => by omega) (fun q => ⟨94, by rw [s6_7]; rfl, rfl⟩) ?_
    refine r_aload_n hm rfl (k := ?_)
    refine r_iconst hm rfl (k := ?_)
    refine r_callv (j2 := 205) hm rfl rfl rfl rfl rfl rfl (by first | assumption | exact (g1.1 _).trans rfl) (Nat.le_of_ble_eq_true rfl) (Nat.le_of_ble_eq_true rfl) rfl ⟨Nat.le_of_ble_eq_true rfl, Nat.le_of_ble_eq_true rfl, Nat.le_of_ble_eq_true rfl, Nat.le_of_ble_eq_true rfl, Nat.le_of_ble_eq_true rfl⟩ rfl (m_late g1 hc1 hR1 hok) (fun v9 h9 p9 => ?_)
    obtain ⟨e1, e2⟩ := p9
    subst e2
    replace e1 := e1.symm
    subst e1
    change RN 201 105 _ _ _ 0 0 _
    dsimp only [Option.toList, List.cons_append, List.nil_append]
    refine r_ireturn hm rfl rfl (by rfl) (Nat.le_of_ble_eq_true rfl) (Nat.le_of_ble_eq_true rfl) ?_
    refine ⟨I.sm S1 (fun a k z => by unfold regM at z; unfold idleM; omega), S1.mono (fun a k z => by unfold regM at z; omega), ?_⟩
    unfold aCount
    rw [if_neg (by omega), if_neg (by omega), if_neg (by omega), if_neg (by omega), if_neg (by omega), if_neg (by omega), if_neg (by omega), if_pos (by omega)]
    try rfl
  by_cases s6_8 : w = 8
  · refine r_tsw hm rfl 106 (fun q => by omega) (fun q => ⟨100, by rw [s6_8]; rfl, rfl⟩) ?_
    refine r_aload_n hm rfl (k := ?_)
    refine r_getI (hm := hm) (hf := rfl) (hd := rfl) (hs := (by first | assumption | exact (g1.1 _).trans rfl)) (hv := (by first | assumption | exact g1.2 _ _ _ rfl | exact (S1.2.2 _ _ (by unfold regM; omega)).trans hG | exact (S1.2.2 _ _ (by unfold regM; omega)).trans hL)) (k := ?_)
    refine r_ireturn hm rfl rfl (by rfl) (Nat.le_of_ble_eq_true rfl) (Nat.le_of_ble_eq_true rfl) ?_
    refine ⟨I.sm S1 (fun a k z => by unfold regM at z; unfold idleM; omega), S1.mono (fun a k z => by unfold regM at z; omega), ?_⟩
    unfold aCount
    rw [if_neg (by omega), if_neg (by omega), if_neg (by omega), if_neg (by omega), if_neg (by omega), if_neg (by omega), if_neg (by omega), if_neg (by omega), if_pos (by omega)]
    try rfl
  by_cases s6_9 : w = 9
  · refine r_tsw hm rfl 111 (fun q => by omega) (fun q => ⟨105, by rw [s6_9]; rfl, rfl⟩) ?_
    have qP2 := m_piecesThat g1 hc1 hR1 hok (kd := 2)
    rw [cpk_kd (by omega)] at qP2
    refine r_aload_n hm rfl (k := ?_)
    refine r_iconst hm rfl (k := ?_)
    refine r_callv (j2 := 202) hm rfl rfl rfl rfl rfl rfl (by first | assumption | exact (g1.1 _).trans rfl) (Nat.le_of_ble_eq_true rfl) (Nat.le_of_ble_eq_true rfl) rfl ⟨Nat.le_of_ble_eq_true rfl, Nat.le_of_ble_eq_true rfl, Nat.le_of_ble_eq_true rfl, Nat.le_of_ble_eq_true rfl, Nat.le_of_ble_eq_true rfl⟩ rfl (qP2) (fun v9 h9 p9 => ?_)
    obtain ⟨e1, e2⟩ := p9
    subst e2
    replace e1 := e1.symm
    subst e1
    change RN 201 116 _ _ _ 0 0 _
    dsimp only [Option.toList, List.cons_append, List.nil_append]
    refine r_ireturn hm rfl rfl (by rfl) (Nat.le_of_ble_eq_true rfl) (Nat.le_of_ble_eq_true rfl) ?_
    refine ⟨I.sm S1 (fun a k z => by unfold regM at z; unfold idleM; omega), S1.mono (fun a k z => by unfold regM at z; omega), ?_⟩
    unfold aCount
    rw [if_neg (by omega), if_neg (by omega), if_neg (by omega), if_neg (by omega), if_neg (by omega), if_neg (by omega), if_neg (by omega), if_neg (by omega), if_neg (by omega), if_pos (by omega)]
    try rfl
  refine r_tsw hm rfl 117 (fun q => rfl) (fun q => by exfalso; omega) ?_
  refine r_sipush hm rfl (k := ?_)
  refine r_ireturn hm rfl rfl (by rfl) (Nat.le_of_ble_eq_true rfl) (Nat.le_of_ble_eq_true rfl) ?_
  refine ⟨I.sm S1 (fun a k z => by unfold regM at z; unfold idleM; omega), S1.mono (fun a k z => by unfold regM at z; omega), ?_⟩
  unfold aCount
  rw [if_neg (by omega), if_neg (by omega), if_neg (by omega), if_neg (by omega), if_neg (by omega), if_neg (by omega), if_neg (by omega), if_neg (by omega), if_neg (by omega), if_neg (by omega)]
  try rfl
set_option maxRecDepth 8000 in
theorem m_set {L : Nat} {h : Hp} {S : St} (I : InvM L h S) (ok : okS S) {w : Int} (hw0 : inI w) : RN 207 0 [some (.inr (.inr (some 1085))), some (.inl w)] [] h 0 0 (fun v h2 => InvM L h2 S ∧ FxM h h2 ∧ v = some (.inl (aSet S w))) := by
  have hm : mrec 207 = some nM207 := rfl
  obtain ⟨g, hR, hV, hK, hG, hL, hB, hFl⟩ := id I
  have hok := ok.1
  obtain ⟨M0, M1, M2, M3, M4, Q0, Q1, Q2, S0, N0, N1⟩ := hR.use
  have n60 := hok.1
  have g1 := g
  have hR1 := hR
  have hH : 8 ≤ S.1.2.2.2 0 ∧ S.1.2.2.2 0 ≤ 60 := by have := hok.2.2.2.2; unfold okStl at this; omega
  refine r_iload_n hm rfl (k := ?_)
  refine r_i2l hm rfl (k := ?_)
  refine r_lconst hm rfl (k := ?_)
  refine r_ldc2 hm rfl (hd := rfl) (k := ?_)
  refine r_calls (j2 := 162) hm rfl rfl rfl rfl rfl rfl (Nat.le_of_ble_eq_true rfl) (Nat.le_of_ble_eq_true rfl) rfl ⟨Nat.le_of_ble_eq_true rfl, Nat.le_of_ble_eq_true rfl, Nat.le_of_ble_eq_true rfl, Nat.le_of_ble_eq_true rfl, Nat.le_of_ble_eq_true rfl⟩ rfl (m_in (z := w) (a := 0) (b := 4) (zL_t hw0) rfl rfl) (fun v9 h9 p9 => ?_)
  obtain ⟨e1, e2⟩ := p9
  subst e2
  replace e1 := e1.symm
  subst e1
  obtain ⟨b7, eb7, hb7⟩ := ite01 (p := (0 : Int) ≤ w ∧ w ≤ (4 : Int))
  rw [eb7]
  change RN 207 9 _ _ _ 0 0 _
  dsimp only [Option.toList, List.cons_append, List.nil_append]
  refine r_if_ne (t := 16) hm rfl rfl (fun c9 => ?_) (fun c9 => ?_)
  · refine r_aload_n hm rfl (k := ?_)
    refine r_callv (j2 := 184) hm rfl rfl rfl rfl rfl rfl (by first | assumption | exact (g1.1 _).trans rfl) (Nat.le_of_ble_eq_true rfl) (Nat.le_of_ble_eq_true rfl) rfl ⟨Nat.le_of_ble_eq_true rfl, Nat.le_of_ble_eq_true rfl, Nat.le_of_ble_eq_true rfl, Nat.le_of_ble_eq_true rfl, Nat.le_of_ble_eq_true rfl⟩ rfl (m_setNow I ok) (fun v9 hA p9 => ?_)
    obtain ⟨S1, yS, e1⟩ := p9
    subst e1
    replace g1 := S1.gg g
    replace hR1 := S1.repM (fun a k z => regM_R z) hR
    clear M0 M1 M2 M3 M4 Q0 Q1 Q2 S0 N0 N1
    obtain ⟨M0, M1, M2, M3, M4, Q0, Q1, Q2, S0, N0, N1⟩ := hR1.use
    obtain ⟨hc1, y35, y36, y37, y11, yP, yL, yl, yn, yN⟩ := id yS
    obtain ⟨v5, v6, v7, v8, vus, vfp, vlp, vwr⟩ := id yP
    have hlt := ltR_ok (H := S.1.2.2.2 0) hok (fin S.1 (S.1.2.2.2 0))
    obtain ⟨pk, pr, pw⟩ := psf_ok hok hlt hH
    have prg := pk.rng (TT_le hok (Nat.le_refl _))
    have flr := fin_le (x := S.1) (H := S.1.2.2.2 0)
    change RN 207 20 _ _ _ 0 0 _
    dsimp only [Option.toList, List.nil_append]
    refine r_iload_n hm rfl (k := ?_)
    refine r_if_ne (t := 31) hm rfl rfl (fun c21 => ?_) (fun c21 => ?_)
    · refine r_iload_n hm rfl (k := ?_)
      refine r_iconst hm rfl (k := ?_)
      refine r_icmp_ne (t := 43) hm rfl rfl (fun c33 => ?_) (fun c33 => ?_)
      · refine r_iload_n hm rfl (k := ?_)
        refine r_iconst hm rfl (k := ?_)
        refine r_icmp_ne (t := 55) hm rfl rfl (fun c45 => ?_) (fun c45 => ?_)
        · refine r_iload_n hm rfl (k := ?_)
          refine r_iconst hm rfl (k := ?_)
          refine r_icmp_ne (t := 72) hm rfl rfl (fun c57 => ?_) (fun c57 => ?_)
          · refine r_aload_n hm rfl (k := ?_)
            refine r_getR (hm := hm) (hf := rfl) (hd := rfl) (hs := (by first | assumption | exact (g1.1 _).trans rfl)) (hv := (by first | assumption | exact g1.2 _ _ _ rfl | exact M0 _ (by omega) | exact M1 _ (by omega) | exact M2 _ (by omega) | exact M3 _ (by omega) | exact M4 _ (by omega) | exact Q0 _ _ (by omega) (by omega) | exact Q1 _ _ (by omega) (by omega) | exact Q2 _ _ (by omega) (by omega) | exact y11 _ (by omega) | exact vus _ (by omega) (by omega))) (k := ?_)
            refine r_aload_n hm rfl (k := ?_)
            refine r_getI (hm := hm) (hf := rfl) (hd := rfl) (hs := (by first | assumption | exact (g1.1 _).trans rfl)) (hv := (by first | assumption | exact g1.2 _ _ _ rfl | exact M0 _ (by omega) | exact M1 _ (by omega) | exact M2 _ (by omega) | exact M3 _ (by omega) | exact M4 _ (by omega) | exact Q0 _ _ (by omega) (by omega) | exact Q1 _ _ (by omega) (by omega) | exact Q2 _ _ (by omega) (by omega) | exact y11 _ (by omega) | exact vus _ (by omega) (by omega))) (k := ?_)
            refine r_iald (hm := hm) (hf := rfl) (hs := (by first | assumption | exact (g1.1 _).trans rfl)) (hi := rfl) (hn := (by omega)) (hv := (by first | assumption | exact g1.2 _ _ _ rfl | exact M0 _ (by omega) | exact M1 _ (by omega) | exact M2 _ (by omega) | exact M3 _ (by omega) | exact M4 _ (by omega) | exact Q0 _ _ (by omega) (by omega) | exact Q1 _ _ (by omega) (by omega) | exact Q2 _ _ (by omega) (by omega) | exact y11 _ (by omega) | exact vus _ (by omega) (by omega))) (k := ?_)
            refine r_ireturn hm rfl rfl (by rfl) (Nat.le_of_ble_eq_true rfl) (Nat.le_of_ble_eq_true rfl) ?_
            refine ⟨I.sm S1 (fun a k z => by unfold regM at z; unfold idleM; omega), S1.mono (fun a k z => by unfold regM at z; omega), ?_⟩
            unfold aSet
            rw [if_neg (by omega), if_neg (by omega), if_neg (by omega), if_neg (by omega), if_pos (by omega)]
          · refine r_aload_n hm rfl (k := ?_)
            refine r_getR (hm := hm) (hf := rfl) (hd := rfl) (hs := (by first | assumption | exact (g1.1 _).trans rfl)) (hv := (by first | assumption | exact g1.2 _ _ _ rfl | exact M0 _ (by omega) | exact M1 _ (by omega) | exact M2 _ (by omega) | exact M3 _ (by omega) | exact M4 _ (by omega) | exact Q0 _ _ (by omega) (by omega) | exact Q1 _ _ (by omega) (by omega) | exact Q2 _ _ (by omega) (by omega) | exact y11 _ (by omega) | exact vus _ (by omega) (by omega))) (k := ?_)
            refine r_aload_n hm rfl (k := ?_)
            refine r_getI (hm := hm) (hf := rfl) (hd := rfl) (hs := (by first | assumption | exact (g1.1 _).trans rfl)) (hv := (by first | assumption | exact g1.2 _ _ _ rfl | exact M0 _ (by omega) | exact M1 _ (by omega) | exact M2 _ (by omega) | exact M3 _ (by omega) | exact M4 _ (by omega) | exact Q0 _ _ (by omega) (by omega) | exact Q1 _ _ (by omega) (by omega) | exact Q2 _ _ (by omega) (by omega) | exact y11 _ (by omega) | exact vus _ (by omega) (by omega))) (k := ?_)
            refine r_iald (hm := hm) (hf := rfl) (hs := (by first | assumption | exact (g1.1 _).trans rfl)) (hi := rfl) (hn := (by omega)) (hv := (by first | assumption | exact g1.2 _ _ _ rfl | exact M0 _ (by omega) | exact M1 _ (by omega) | exact M2 _ (by omega) | exact M3 _ (by omega) | exact M4 _ (by omega) | exact Q0 _ _ (by omega) (by omega) | exact Q1 _ _ (by omega) (by omega) | exact Q2 _ _ (by omega) (by omega) | exact y11 _ (by omega) | exact vus _ (by omega) (by omega))) (k := ?_)
            refine r_goto (t := 81) hm rfl (k := ?_)
            refine r_ireturn hm rfl rfl (by rfl) (Nat.le_of_ble_eq_true rfl) (Nat.le_of_ble_eq_true rfl) ?_
            refine ⟨I.sm S1 (fun a k z => by unfold regM at z; unfold idleM; omega), S1.mono (fun a k z => by unfold regM at z; omega), ?_⟩
            unfold aSet
            rw [if_neg (by omega), if_neg (by omega), if_neg (by omega), if_pos (by omega)]
        · refine r_aload_n hm rfl (k := ?_)
          refine r_getI (hm := hm) (hf := rfl) (hd := rfl) (hs := (by first | assumption | exact (g1.1 _).trans rfl)) (hv := (by first | assumption | exact g1.2 _ _ _ rfl | exact M0 _ (by omega) | exact M1 _ (by omega) | exact M2 _ (by omega) | exact M3 _ (by omega) | exact M4 _ (by omega) | exact Q0 _ _ (by omega) (by omega) | exact Q1 _ _ (by omega) (by omega) | exact Q2 _ _ (by omega) (by omega) | exact y11 _ (by omega) | exact vus _ (by omega) (by omega))) (k := ?_)
          refine r_goto (t := 81) hm rfl (k := ?_)
          refine r_ireturn hm rfl rfl (by rfl) (Nat.le_of_ble_eq_true rfl) (Nat.le_of_ble_eq_true rfl) ?_
          refine ⟨I.sm S1 (fun a k z => by unfold regM at z; unfold idleM; omega), S1.mono (fun a k z => by unfold regM at z; omega), ?_⟩
          unfold aSet
          rw [if_neg (by omega), if_neg (by omega), if_pos (by omega)]
      · refine r_aload_n hm rfl (k := ?_)
        refine r_getI (hm := hm) (hf := rfl) (hd := rfl) (hs := (by first | assumption | exact (g1.1 _).trans rfl)) (hv := (by first | assumption | exact g1.2 _ _ _ rfl | exact M0 _ (by omega) | exact M1 _ (by omega) | exact M2 _ (by omega) | exact M3 _ (by omega) | exact M4 _ (by omega) | exact Q0 _ _ (by omega) (by omega) | exact Q1 _ _ (by omega) (by omega) | exact Q2 _ _ (by omega) (by omega) | exact y11 _ (by omega) | exact vus _ (by omega) (by omega))) (k := ?_)
        refine r_goto (t := 81) hm rfl (k := ?_)
        refine r_ireturn hm rfl rfl (by rfl) (Nat.le_of_ble_eq_true rfl) (Nat.le_of_ble_eq_true rfl) ?_
        refine ⟨I.sm S1 (fun a k z => by unfold regM at z; unfold idleM; omega), S1.mono (fun a k z => by unfold regM at z; omega), ?_⟩
        unfold aSet
        rw [if_neg (by omega), if_pos (by omega)]
    · refine r_aload_n hm rfl (k := ?_)
      refine r_getI (hm := hm) (hf := rfl) (hd := rfl) (hs := (by first | assumption | exact (g1.1 _).trans rfl)) (hv := (by first | assumption | exact g1.2 _ _ _ rfl | exact M0 _ (by omega) | exact M1 _ (by omega) | exact M2 _ (by omega) | exact M3 _ (by omega) | exact M4 _ (by omega) | exact Q0 _ _ (by omega) (by omega) | exact Q1 _ _ (by omega) (by omega) | exact Q2 _ _ (by omega) (by omega) | exact y11 _ (by omega) | exact vus _ (by omega) (by omega))) (k := ?_)
      refine r_goto (t := 81) hm rfl (k := ?_)
      refine r_ireturn hm rfl rfl (by rfl) (Nat.le_of_ble_eq_true rfl) (Nat.le_of_ble_eq_true rfl) ?_
      refine ⟨I.sm S1 (fun a k z => by unfold regM at z; unfold idleM; omega), S1.mono (fun a k z => by unfold regM at z; omega), ?_⟩
      unfold aSet
      rw [if_pos (by omega)]
  · refine r_sipush hm rfl (k := ?_)
    refine r_ireturn hm rfl rfl (by rfl) (Nat.le_of_ble_eq_true rfl) (Nat.le_of_ble_eq_true rfl) ?_
    refine ⟨I, Sm.refl, ?_⟩
    unfold aSet
    rw [if_neg (by omega), if_neg (by omega), if_neg (by omega), if_neg (by omega), if_neg (by omega)]
set_option maxRecDepth 8000 in
theorem m_page {L : Nat} {h : Hp} {S : St} (I : InvM L h S) (ok : okS S) {i w : Int} (hi0 : inI i) (hw0 : inI w) : RN 208 0 [some (.inr (.inr (some 1085))), some (.inl i), some (.inl w)] [] h 0 0 (fun v h2 => InvM L h2 S ∧ FxM h h2 ∧ v = some (.inl (aPage S i w))) := by
  have hm : mrec 208 = some nM208 := rfl
  obtain ⟨g, hR, hV, hK, hG, hL, hB, hFl⟩ := id I
  have hok := ok.1
  obtain ⟨M0, M1, M2, M3, M4, Q0, Q1, Q2, S0, N0, N1⟩ := hR.use
  have n60 := hok.1
  have g1 := g
  have hR1 := hR
  have hH : 8 ≤ S.1.2.2.2 0 ∧ S.1.2.2.2 0 ≤ 60 := by have := hok.2.2.2.2; unfold okStl at this; omega
  refine r_aload_n hm rfl (k := ?_)
  refine r_iload_n hm rfl (k := ?_)
  refine r_callv (j2 := 165) hm rfl rfl rfl rfl rfl rfl (by first | assumption | exact (g1.1 _).trans rfl) (Nat.le_of_ble_eq_true rfl) (Nat.le_of_ble_eq_true rfl) rfl ⟨Nat.le_of_ble_eq_true rfl, Nat.le_of_ble_eq_true rfl, Nat.le_of_ble_eq_true rfl, Nat.le_of_ble_eq_true rfl, Nat.le_of_ble_eq_true rfl⟩ rfl (m_isItem g hR hi0) (fun v9 h9 p9 => ?_)
  obtain ⟨e1, e2⟩ := p9
  subst e2
  replace e1 := e1.symm
  subst e1
  obtain ⟨b9, eb9, hb9⟩ := ite01 (p := 0 ≤ i ∧ i < (S.1.1 : Int))
  rw [eb9]
  change RN 208 5 _ _ _ 0 0 _
  dsimp only [Option.toList, List.cons_append, List.nil_append]
  refine r_if_ne (t := 12) hm rfl rfl (fun c5 => ?_) (fun c5 => ?_)
  · obtain ⟨q, rfl⟩ := Int.eq_ofNat_of_zero_le (show 0 ≤ i by omega)
    refine r_iload_n hm rfl (k := ?_)
    refine r_i2l hm rfl (k := ?_)
    refine r_lconst hm rfl (k := ?_)
    refine r_ldc2 hm rfl (hd := rfl) (k := ?_)
    refine r_calls (j2 := 162) hm rfl rfl rfl rfl rfl rfl (Nat.le_of_ble_eq_true rfl) (Nat.le_of_ble_eq_true rfl) rfl ⟨Nat.le_of_ble_eq_true rfl, Nat.le_of_ble_eq_true rfl, Nat.le_of_ble_eq_true rfl, Nat.le_of_ble_eq_true rfl, Nat.le_of_ble_eq_true rfl⟩ rfl (m_in (z := w) (a := 0) (b := 2) (zL_t hw0) rfl rfl) (fun v9 h9 p9 => ?_)
    obtain ⟨e1, e2⟩ := p9
    subst e2
    replace e1 := e1.symm
    subst e1
    obtain ⟨b7, eb7, hb7⟩ := ite01 (p := (0 : Int) ≤ w ∧ w ≤ (2 : Int))
    rw [eb7]
    change RN 208 21 _ _ _ 0 0 _
    dsimp only [Option.toList, List.cons_append, List.nil_append]
    refine r_if_ne (t := 28) hm rfl rfl (fun c21 => ?_) (fun c21 => ?_)
    · refine r_aload_n hm rfl (k := ?_)
      refine r_callv (j2 := 184) hm rfl rfl rfl rfl rfl rfl (by first | assumption | exact (g1.1 _).trans rfl) (Nat.le_of_ble_eq_true rfl) (Nat.le_of_ble_eq_true rfl) rfl ⟨Nat.le_of_ble_eq_true rfl, Nat.le_of_ble_eq_true rfl, Nat.le_of_ble_eq_true rfl, Nat.le_of_ble_eq_true rfl, Nat.le_of_ble_eq_true rfl⟩ rfl (m_setNow I ok) (fun v9 hA p9 => ?_)
      obtain ⟨S1, yS, e1⟩ := p9
      subst e1
      replace g1 := S1.gg g
      replace hR1 := S1.repM (fun a k z => regM_R z) hR
      clear M0 M1 M2 M3 M4 Q0 Q1 Q2 S0 N0 N1
      obtain ⟨M0, M1, M2, M3, M4, Q0, Q1, Q2, S0, N0, N1⟩ := hR1.use
      obtain ⟨hc1, y35, y36, y37, y11, yP, yL, yl, yn, yN⟩ := id yS
      obtain ⟨v5, v6, v7, v8, vus, vfp, vlp, vwr⟩ := id yP
      have hlt := ltR_ok (H := S.1.2.2.2 0) hok (fin S.1 (S.1.2.2.2 0))
      obtain ⟨pk, pr, pw⟩ := psf_ok hok hlt hH
      have prg := pk.rng (TT_le hok (Nat.le_refl _))
      have flr := fin_le (x := S.1) (H := S.1.2.2.2 0)
      change RN 208 32 _ _ _ 0 0 _
      dsimp only [Option.toList, List.nil_append]
      refine r_iload_n hm rfl (k := ?_)
      refine r_if_ne (t := 45) hm rfl rfl (fun c33 => ?_) (fun c33 => ?_)
      · refine r_iload_n hm rfl (k := ?_)
        refine r_iconst hm rfl (k := ?_)
        refine r_icmp_ne (t := 59) hm rfl rfl (fun c47 => ?_) (fun c47 => ?_)
        · refine r_aload_n hm rfl (k := ?_)
          refine r_getR (hm := hm) (hf := rfl) (hd := rfl) (hs := (by first | assumption | exact (g1.1 _).trans rfl)) (hv := (by first | assumption | exact g1.2 _ _ _ rfl | exact M0 _ (by omega) | exact M1 _ (by omega) | exact M2 _ (by omega) | exact M3 _ (by omega) | exact M4 _ (by omega) | exact Q0 _ _ (by omega) (by omega) | exact Q1 _ _ (by omega) (by omega) | exact Q2 _ _ (by omega) (by omega) | exact yL.1 _ (by omega) | exact vfp _ (by have := pr q (by omega); omega) | exact vlp _ (by have := pr q (by omega); omega))) (k := ?_)
          refine r_iload_n hm rfl (k := ?_)
          refine r_iald (hm := hm) (hf := rfl) (hs := (by first | assumption | exact (g1.1 _).trans rfl)) (hi := rfl) (hn := (by omega)) (hv := (by first | assumption | exact g1.2 _ _ _ rfl | exact M0 _ (by omega) | exact M1 _ (by omega) | exact M2 _ (by omega) | exact M3 _ (by omega) | exact M4 _ (by omega) | exact Q0 _ _ (by omega) (by omega) | exact Q1 _ _ (by omega) (by omega) | exact Q2 _ _ (by omega) (by omega) | exact yL.1 _ (by omega) | exact vfp _ (by have := pr q (by omega); omega) | exact vlp _ (by have := pr q (by omega); omega))) (k := ?_)
          refine r_ireturn hm rfl rfl (by rfl) (Nat.le_of_ble_eq_true rfl) (Nat.le_of_ble_eq_true rfl) ?_
          refine ⟨I.sm S1 (fun a k z => by unfold regM at z; unfold idleM; omega), S1.mono (fun a k z => by unfold regM at z; omega), ?_⟩
          unfold aPage
          rw [if_neg (by omega), if_neg (by omega), if_neg (by omega), if_pos (by omega)]
          try rfl
        · refine r_aload_n hm rfl (k := ?_)
          refine r_getR (hm := hm) (hf := rfl) (hd := rfl) (hs := (by first | assumption | exact (g1.1 _).trans rfl)) (hv := (by first | assumption | exact g1.2 _ _ _ rfl | exact M0 _ (by omega) | exact M1 _ (by omega) | exact M2 _ (by omega) | exact M3 _ (by omega) | exact M4 _ (by omega) | exact Q0 _ _ (by omega) (by omega) | exact Q1 _ _ (by omega) (by omega) | exact Q2 _ _ (by omega) (by omega) | exact yL.1 _ (by omega) | exact vfp _ (by have := pr q (by omega); omega) | exact vlp _ (by have := pr q (by omega); omega))) (k := ?_)
          refine r_iload_n hm rfl (k := ?_)
          refine r_iald (hm := hm) (hf := rfl) (hs := (by first | assumption | exact (g1.1 _).trans rfl)) (hi := rfl) (hn := (by omega)) (hv := (by first | assumption | exact g1.2 _ _ _ rfl | exact M0 _ (by omega) | exact M1 _ (by omega) | exact M2 _ (by omega) | exact M3 _ (by omega) | exact M4 _ (by omega) | exact Q0 _ _ (by omega) (by omega) | exact Q1 _ _ (by omega) (by omega) | exact Q2 _ _ (by omega) (by omega) | exact yL.1 _ (by omega) | exact vfp _ (by have := pr q (by omega); omega) | exact vlp _ (by have := pr q (by omega); omega))) (k := ?_)
          refine r_goto (t := 65) hm rfl (k := ?_)
          refine r_ireturn hm rfl rfl (by rfl) (Nat.le_of_ble_eq_true rfl) (Nat.le_of_ble_eq_true rfl) ?_
          refine ⟨I.sm S1 (fun a k z => by unfold regM at z; unfold idleM; omega), S1.mono (fun a k z => by unfold regM at z; omega), ?_⟩
          unfold aPage
          rw [if_neg (by omega), if_neg (by omega), if_pos (by omega)]
          try rfl
      · refine r_aload_n hm rfl (k := ?_)
        refine r_getR (hm := hm) (hf := rfl) (hd := rfl) (hs := (by first | assumption | exact (g1.1 _).trans rfl)) (hv := (by first | assumption | exact g1.2 _ _ _ rfl | exact M0 _ (by omega) | exact M1 _ (by omega) | exact M2 _ (by omega) | exact M3 _ (by omega) | exact M4 _ (by omega) | exact Q0 _ _ (by omega) (by omega) | exact Q1 _ _ (by omega) (by omega) | exact Q2 _ _ (by omega) (by omega) | exact yL.1 _ (by omega) | exact vfp _ (by have := pr q (by omega); omega) | exact vlp _ (by have := pr q (by omega); omega))) (k := ?_)
        refine r_iload_n hm rfl (k := ?_)
        refine r_iald (hm := hm) (hf := rfl) (hs := (by first | assumption | exact (g1.1 _).trans rfl)) (hi := rfl) (hn := (by omega)) (hv := (by first | assumption | exact g1.2 _ _ _ rfl | exact M0 _ (by omega) | exact M1 _ (by omega) | exact M2 _ (by omega) | exact M3 _ (by omega) | exact M4 _ (by omega) | exact Q0 _ _ (by omega) (by omega) | exact Q1 _ _ (by omega) (by omega) | exact Q2 _ _ (by omega) (by omega) | exact yL.1 _ (by omega) | exact vfp _ (by have := pr q (by omega); omega) | exact vlp _ (by have := pr q (by omega); omega))) (k := ?_)
        refine r_goto (t := 65) hm rfl (k := ?_)
        refine r_ireturn hm rfl rfl (by rfl) (Nat.le_of_ble_eq_true rfl) (Nat.le_of_ble_eq_true rfl) ?_
        refine ⟨I.sm S1 (fun a k z => by unfold regM at z; unfold idleM; omega), S1.mono (fun a k z => by unfold regM at z; omega), ?_⟩
        unfold aPage
        rw [if_neg (by omega), if_pos (by omega)]
        try rfl
    · refine r_sipush hm rfl (k := ?_)
      refine r_ireturn hm rfl rfl (by rfl) (Nat.le_of_ble_eq_true rfl) (Nat.le_of_ble_eq_true rfl) ?_
      refine ⟨I, Sm.refl, ?_⟩
      unfold aPage
      rw [if_neg (by omega), if_neg (by omega), if_neg (by omega), if_neg (by omega)]
  · refine r_sipush hm rfl (k := ?_)
    refine r_ireturn hm rfl rfl (by rfl) (Nat.le_of_ble_eq_true rfl) (Nat.le_of_ble_eq_true rfl) ?_
    refine ⟨I, Sm.refl, ?_⟩
    unfold aPage
    rw [if_pos (by omega)]
set_option maxRecDepth 8000 in
theorem m_used {L : Nat} {h : Hp} {S : St} (I : InvM L h S) (ok : okS S) {p : Int} (hp0 : inI p) : RN 209 0 [some (.inr (.inr (some 1085))), some (.inl p)] [] h 0 0 (fun v h2 => InvM L h2 S ∧ FxM h h2 ∧ v = some (.inl (aUsed S p))) := by
  have hm : mrec 209 = some nM209 := rfl
  obtain ⟨g, hR, hV, hK, hG, hL, hB, hFl⟩ := id I
  have hok := ok.1
  obtain ⟨M0, M1, M2, M3, M4, Q0, Q1, Q2, S0, N0, N1⟩ := hR.use
  have n60 := hok.1
  have g1 := g
  have hR1 := hR
  have hH : 8 ≤ S.1.2.2.2 0 ∧ S.1.2.2.2 0 ≤ 60 := by have := hok.2.2.2.2; unfold okStl at this; omega
  refine r_aload_n hm rfl (k := ?_)
  refine r_callv (j2 := 184) hm rfl rfl rfl rfl rfl rfl (by first | assumption | exact (g1.1 _).trans rfl) (Nat.le_of_ble_eq_true rfl) (Nat.le_of_ble_eq_true rfl) rfl ⟨Nat.le_of_ble_eq_true rfl, Nat.le_of_ble_eq_true rfl, Nat.le_of_ble_eq_true rfl, Nat.le_of_ble_eq_true rfl, Nat.le_of_ble_eq_true rfl⟩ rfl (m_setNow I ok) (fun v9 hA p9 => ?_)
  obtain ⟨S1, yS, e1⟩ := p9
  subst e1
  replace g1 := S1.gg g
  replace hR1 := S1.repM (fun a k z => regM_R z) hR
  clear M0 M1 M2 M3 M4 Q0 Q1 Q2 S0 N0 N1
  obtain ⟨M0, M1, M2, M3, M4, Q0, Q1, Q2, S0, N0, N1⟩ := hR1.use
  obtain ⟨hc1, y35, y36, y37, y11, yP, yL, yl, yn, yN⟩ := id yS
  obtain ⟨v5, v6, v7, v8, vus, vfp, vlp, vwr⟩ := id yP
  have hlt := ltR_ok (H := S.1.2.2.2 0) hok (fin S.1 (S.1.2.2.2 0))
  obtain ⟨pk, pr, pw⟩ := psf_ok hok hlt hH
  have prg := pk.rng (TT_le hok (Nat.le_refl _))
  have flr := fin_le (x := S.1) (H := S.1.2.2.2 0)
  have hpg : 0 ≤ pgs S.1 (S.1.2.2.2 0) (fin S.1 (S.1.2.2.2 0)) ∧ pgs S.1 (S.1.2.2.2 0) (fin S.1 (S.1.2.2.2 0)) ≤ ((psf S.1 (S.1.2.2.2 0) (ltR S.1 (S.1.2.2.2 0) (fin S.1 (S.1.2.2.2 0)))).1 : Int) := by unfold pgs; split <;> omega
  change RN 209 4 _ _ _ 0 0 _
  dsimp only [Option.toList, List.nil_append]
  refine r_iload_n hm rfl (k := ?_)
  refine r_i2l hm rfl (k := ?_)
  refine r_lconst hm rfl (k := ?_)
  refine r_aload_n hm rfl (k := ?_)
  refine r_getR (hm := hm) (hf := rfl) (hd := rfl) (hs := (by first | assumption | exact (g1.1 _).trans rfl)) (hv := (by first | assumption | exact g1.2 _ _ _ rfl | exact M0 _ (by omega) | exact M1 _ (by omega) | exact M2 _ (by omega) | exact M3 _ (by omega) | exact M4 _ (by omega) | exact Q0 _ _ (by omega) (by omega) | exact Q1 _ _ (by omega) (by omega) | exact Q2 _ _ (by omega) (by omega) | exact y11 _ (by omega) | exact vus _ (by omega) (by omega))) (k := ?_)
  refine r_aload_n hm rfl (k := ?_)
  refine r_getI (hm := hm) (hf := rfl) (hd := rfl) (hs := (by first | assumption | exact (g1.1 _).trans rfl)) (hv := (by first | assumption | exact g1.2 _ _ _ rfl | exact M0 _ (by omega) | exact M1 _ (by omega) | exact M2 _ (by omega) | exact M3 _ (by omega) | exact M4 _ (by omega) | exact Q0 _ _ (by omega) (by omega) | exact Q1 _ _ (by omega) (by omega) | exact Q2 _ _ (by omega) (by omega) | exact y11 _ (by omega) | exact vus _ (by omega) (by omega))) (k := ?_)
  refine r_iald (hm := hm) (hf := rfl) (hs := (by first | assumption | exact (g1.1 _).trans rfl)) (hi := rfl) (hn := (by omega)) (hv := (by first | assumption | exact g1.2 _ _ _ rfl | exact M0 _ (by omega) | exact M1 _ (by omega) | exact M2 _ (by omega) | exact M3 _ (by omega) | exact M4 _ (by omega) | exact Q0 _ _ (by omega) (by omega) | exact Q1 _ _ (by omega) (by omega) | exact Q2 _ _ (by omega) (by omega) | exact y11 _ (by omega) | exact vus _ (by omega) (by omega))) (k := ?_)
  refine r_i2l hm rfl (k := ?_)
  refine r_calls (j2 := 162) hm rfl rfl rfl rfl rfl rfl (Nat.le_of_ble_eq_true rfl) (Nat.le_of_ble_eq_true rfl) rfl ⟨Nat.le_of_ble_eq_true rfl, Nat.le_of_ble_eq_true rfl, Nat.le_of_ble_eq_true rfl, Nat.le_of_ble_eq_true rfl, Nat.le_of_ble_eq_true rfl⟩ rfl (m_in (z := p) (a := 1) (b := pgs S.1 (S.1.2.2.2 0) (fin S.1 (S.1.2.2.2 0))) (zL_t hp0) rfl (zL_t ⟨by omega, by omega⟩)) (fun v9 h9 p9 => ?_)
  obtain ⟨e1, e2⟩ := p9
  subst e2
  replace e1 := e1.symm
  subst e1
  obtain ⟨b7, eb7, hb7⟩ := ite01 (p := (1 : Int) ≤ p ∧ p ≤ (pgs S.1 (S.1.2.2.2 0) (fin S.1 (S.1.2.2.2 0)) : Int))
  rw [eb7]
  change RN 209 20 _ _ _ 0 0 _
  dsimp only [Option.toList, List.cons_append, List.nil_append]
  refine r_if_eq (t := 32) hm rfl rfl (fun c20 => ?_) (fun c20 => ?_)
  · refine r_sipush hm rfl (k := ?_)
    refine r_ireturn hm rfl rfl (by rfl) (Nat.le_of_ble_eq_true rfl) (Nat.le_of_ble_eq_true rfl) ?_
    refine ⟨I.sm S1 (fun a k z => by unfold regM at z; unfold idleM; omega), S1.mono (fun a k z => by unfold regM at z; omega), ?_⟩
    unfold aUsed
    rw [if_neg (by omega)]
  · refine r_aload_n hm rfl (k := ?_)
    refine r_getR (hm := hm) (hf := rfl) (hd := rfl) (hs := (by first | assumption | exact (g1.1 _).trans rfl)) (hv := (by first | assumption | exact g1.2 _ _ _ rfl | exact M0 _ (by omega) | exact M1 _ (by omega) | exact M2 _ (by omega) | exact M3 _ (by omega) | exact M4 _ (by omega) | exact Q0 _ _ (by omega) (by omega) | exact Q1 _ _ (by omega) (by omega) | exact Q2 _ _ (by omega) (by omega) | exact y11 _ (by omega) | exact vus _ (by omega) (by omega))) (k := ?_)
    refine r_iload_n hm rfl (k := ?_)
    refine r_iald (hm := hm) (hf := rfl) (hs := (by first | assumption | exact (g1.1 _).trans rfl)) (kk := p.toNat) (hi := by omega) (hn := (by omega)) (hv := (by first | assumption | exact g1.2 _ _ _ rfl | exact M0 _ (by omega) | exact M1 _ (by omega) | exact M2 _ (by omega) | exact M3 _ (by omega) | exact M4 _ (by omega) | exact Q0 _ _ (by omega) (by omega) | exact Q1 _ _ (by omega) (by omega) | exact Q2 _ _ (by omega) (by omega) | exact y11 _ (by omega) | exact vus _ (by omega) (by omega))) (k := ?_)
    refine r_goto (t := 35) hm rfl (k := ?_)
    refine r_ireturn hm rfl rfl (by rfl) (Nat.le_of_ble_eq_true rfl) (Nat.le_of_ble_eq_true rfl) ?_
    refine ⟨I.sm S1 (fun a k z => by unfold regM at z; unfold idleM; omega), S1.mono (fun a k z => by unfold regM at z; omega), ?_⟩
    unfold aUsed
    rw [if_pos (by omega)]
set_option maxRecDepth 8000 in
theorem m_round {L : Nat} {h : Hp} {S : St} (I : InvM L h S) (ok : okS S) {r9 : Int} (hr0 : inI r9) : RN 210 0 [some (.inr (.inr (some 1085))), some (.inl r9)] [] h 0 0 (fun v h2 => InvM L h2 S ∧ FxM h h2 ∧ v = some (.inl (aRound S r9))) := by
  have hm : mrec 210 = some nM210 := rfl
  obtain ⟨g, hR, hV, hK, hG, hL, hB, hFl⟩ := id I
  have hok := ok.1
  obtain ⟨M0, M1, M2, M3, M4, Q0, Q1, Q2, S0, N0, N1⟩ := hR.use
  have n60 := hok.1
  have g1 := g
  have hR1 := hR
  have hH : 8 ≤ S.1.2.2.2 0 ∧ S.1.2.2.2 0 ≤ 60 := by have := hok.2.2.2.2; unfold okStl at this; omega
  refine r_aload_n hm rfl (k := ?_)
  refine r_callv (j2 := 184) hm rfl rfl rfl rfl rfl rfl (by first | assumption | exact (g1.1 _).trans rfl) (Nat.le_of_ble_eq_true rfl) (Nat.le_of_ble_eq_true rfl) rfl ⟨Nat.le_of_ble_eq_true rfl, Nat.le_of_ble_eq_true rfl, Nat.le_of_ble_eq_true rfl, Nat.le_of_ble_eq_true rfl, Nat.le_of_ble_eq_true rfl⟩ rfl (m_setNow I ok) (fun v9 hA p9 => ?_)
  obtain ⟨S1, yS, e1⟩ := p9
  subst e1
  replace g1 := S1.gg g
  replace hR1 := S1.repM (fun a k z => regM_R z) hR
  clear M0 M1 M2 M3 M4 Q0 Q1 Q2 S0 N0 N1
  obtain ⟨M0, M1, M2, M3, M4, Q0, Q1, Q2, S0, N0, N1⟩ := hR1.use
  obtain ⟨hc1, y35, y36, y37, y11, yP, yL, yl, yn, yN⟩ := id yS
  obtain ⟨v5, v6, v7, v8, vus, vfp, vlp, vwr⟩ := id yP
  have hlt := ltR_ok (H := S.1.2.2.2 0) hok (fin S.1 (S.1.2.2.2 0))
  obtain ⟨pk, pr, pw⟩ := psf_ok hok hlt hH
  have prg := pk.rng (TT_le hok (Nat.le_refl _))
  have flr := fin_le (x := S.1) (H := S.1.2.2.2 0)
  change RN 210 4 _ _ _ 0 0 _
  dsimp only [Option.toList, List.nil_append]
  refine r_iload_n hm rfl (k := ?_)
  refine r_i2l hm rfl (k := ?_)
  refine r_lconst hm rfl (k := ?_)
  refine r_aload_n hm rfl (k := ?_)
  refine r_getI (hm := hm) (hf := rfl) (hd := rfl) (hs := (by first | assumption | exact (g1.1 _).trans rfl)) (hv := (by first | assumption | exact g1.2 _ _ _ rfl | exact M0 _ (by omega) | exact M1 _ (by omega) | exact M2 _ (by omega) | exact M3 _ (by omega) | exact M4 _ (by omega) | exact Q0 _ _ (by omega) (by omega) | exact Q1 _ _ (by omega) (by omega) | exact Q2 _ _ (by omega) (by omega) | exact y11 _ (by omega))) (k := ?_)
  refine r_i2l hm rfl (k := ?_)
  refine r_calls (j2 := 162) hm rfl rfl rfl rfl rfl rfl (Nat.le_of_ble_eq_true rfl) (Nat.le_of_ble_eq_true rfl) rfl ⟨Nat.le_of_ble_eq_true rfl, Nat.le_of_ble_eq_true rfl, Nat.le_of_ble_eq_true rfl, Nat.le_of_ble_eq_true rfl, Nat.le_of_ble_eq_true rfl⟩ rfl (m_in (z := r9) (a := 0) (b := (fin S.1 (S.1.2.2.2 0) : Int)) (zL_t hr0) rfl (zL_t ⟨by omega, by omega⟩)) (fun v9 h9 p9 => ?_)
  obtain ⟨e1, e2⟩ := p9
  subst e2
  replace e1 := e1.symm
  subst e1
  obtain ⟨b7, eb7, hb7⟩ := ite01 (p := (0 : Int) ≤ r9 ∧ r9 ≤ ((fin S.1 (S.1.2.2.2 0) : Int) : Int))
  rw [eb7]
  change RN 210 15 _ _ _ 0 0 _
  dsimp only [Option.toList, List.cons_append, List.nil_append]
  refine r_if_eq (t := 27) hm rfl rfl (fun c15 => ?_) (fun c15 => ?_)
  · refine r_sipush hm rfl (k := ?_)
    refine r_ireturn hm rfl rfl (by rfl) (Nat.le_of_ble_eq_true rfl) (Nat.le_of_ble_eq_true rfl) ?_
    refine ⟨I.sm S1 (fun a k z => by unfold regM at z; unfold idleM; omega), S1.mono (fun a k z => by unfold regM at z; omega), ?_⟩
    unfold aRound
    rw [if_neg (by omega)]
  · refine r_aload_n hm rfl (k := ?_)
    refine r_getR (hm := hm) (hf := rfl) (hd := rfl) (hs := (by first | assumption | exact (g1.1 _).trans rfl)) (hv := (by first | assumption | exact g1.2 _ _ _ rfl | exact M0 _ (by omega) | exact M1 _ (by omega) | exact M2 _ (by omega) | exact M3 _ (by omega) | exact M4 _ (by omega) | exact Q0 _ _ (by omega) (by omega) | exact Q1 _ _ (by omega) (by omega) | exact Q2 _ _ (by omega) (by omega) | exact y11 _ (by omega))) (k := ?_)
    refine r_iload_n hm rfl (k := ?_)
    refine r_iald (hm := hm) (hf := rfl) (hs := (by first | assumption | exact (g1.1 _).trans rfl)) (kk := r9.toNat) (hi := by omega) (hn := (by omega)) (hv := (by first | assumption | exact g1.2 _ _ _ rfl | exact M0 _ (by omega) | exact M1 _ (by omega) | exact M2 _ (by omega) | exact M3 _ (by omega) | exact M4 _ (by omega) | exact Q0 _ _ (by omega) (by omega) | exact Q1 _ _ (by omega) (by omega) | exact Q2 _ _ (by omega) (by omega) | exact y11 _ (by omega))) (k := ?_)
    refine r_goto (t := 30) hm rfl (k := ?_)
    refine r_ireturn hm rfl rfl (by rfl) (Nat.le_of_ble_eq_true rfl) (Nat.le_of_ble_eq_true rfl) ?_
    refine ⟨I.sm S1 (fun a k z => by unfold regM at z; unfold idleM; omega), S1.mono (fun a k z => by unfold regM at z; omega), ?_⟩
    unfold aRound
    rw [if_pos (by omega)]
theorem nth_go {p : Nat → Bool} {k c : Int} {i d : Nat} (h : 0 < d) : nth p k i d c = if p i then (if c = k then (i : Int) else nth p k (i + 1) (d - 1) (c + 1)) else nth p k (i + 1) (d - 1) c := by
  obtain ⟨e, rfl⟩ : ∃ e, d = e + 1 := ⟨d - 1, by omega⟩
  rfl
theorem nth_neg {p : Nat → Bool} {k : Int} (hk : k < 0) : ∀ (d i : Nat) (c : Int), 0 ≤ c → nth p k i d c = -1 := by
  intro d
  induction d with
  | zero => intro i c _; rfl
  | succ d ih =>
    intro i c hc
    unfold nth
    rw [if_neg (show ¬ c = k by omega), ih (i + 1) (c + 1) (by omega), ih (i + 1) c hc]
    split <;> rfl
set_option maxRecDepth 8000 in
theorem m_list {L : Nat} {h : Hp} {S : St} (I : InvM L h S) (ok : okS S) {i kI : Int} (hi0 : inI i) (hk0 : inI kI) : RN 211 0 [some (.inr (.inr (some 1085))), some (.inl i), some (.inl kI), none, none] [] h 0 0 (fun v h2 => InvM L h2 S ∧ FxM h h2 ∧ v = some (.inl (aList S i kI))) := by
  have hm : mrec 211 = some nM211 := rfl
  obtain ⟨g, hR, hV, hK, hG, hL, hB, hFl⟩ := id I
  have hok := ok.1
  obtain ⟨M0, M1, M2, M3, M4, Q0, Q1, Q2, S0, N0, N1⟩ := hR.use
  have n60 := hok.1
  have g1 := g
  have hR1 := hR
  have hH : 8 ≤ S.1.2.2.2 0 ∧ S.1.2.2.2 0 ≤ 60 := by have := hok.2.2.2.2; unfold okStl at this; omega
  refine r_aload_n hm rfl (k := ?_)
  refine r_iload_n hm rfl (k := ?_)
  refine r_callv (j2 := 165) hm rfl rfl rfl rfl rfl rfl (by first | assumption | exact (g1.1 _).trans rfl) (Nat.le_of_ble_eq_true rfl) (Nat.le_of_ble_eq_true rfl) rfl ⟨Nat.le_of_ble_eq_true rfl, Nat.le_of_ble_eq_true rfl, Nat.le_of_ble_eq_true rfl, Nat.le_of_ble_eq_true rfl, Nat.le_of_ble_eq_true rfl⟩ rfl (m_isItem g hR hi0) (fun v9 h9 p9 => ?_)
  obtain ⟨e1, e2⟩ := p9
  subst e2
  replace e1 := e1.symm
  subst e1
  obtain ⟨b9, eb9, hb9⟩ := ite01 (p := 0 ≤ i ∧ i < (S.1.1 : Int))
  rw [eb9]
  change RN 211 5 _ _ _ 0 0 _
  dsimp only [Option.toList, List.cons_append, List.nil_append]
  refine r_if_ne (t := 12) hm rfl rfl (fun c5 => ?_) (fun c5 => ?_)
  · obtain ⟨q, rfl⟩ := Int.eq_ofNat_of_zero_le (show 0 ≤ i by omega)
    have hkq := hok.2.1 q (by omega)
    unfold okIt at hkq
    have hk1 := hk0
    unfold inI at hk1
    refine r_aload_n hm rfl (k := ?_)
    refine r_iconst hm rfl (k := ?_)
    refine r_putI (hm := hm) (hf := rfl) (hd := rfl) (hs := (by first | assumption | exact (g1.1 _).trans rfl)) (hfin := Or.inl rfl) (hz := fun q9 => absurd q9 (by decide)) (k := ?_)
    refine RN.abs (fun h1 => Sm regM h h1 ∧ h1.2.1 1085 12 = ((3 : Nat) : Int)) ⟨Sm.put Sm.refl (by unfold regM; omega), putI_eq⟩ (fun h1 H9 => ?_)
    obtain ⟨S1, hc1⟩ := H9
    replace g1 := S1.gg g
    replace hR1 := S1.repM (fun a k z => regM_R z) hR
    clear M0 M1 M2 M3 M4 Q0 Q1 Q2 S0 N0 N1
    obtain ⟨M0, M1, M2, M3, M4, Q0, Q1, Q2, S0, N0, N1⟩ := hR1.use
    refine r_aload_n hm rfl (k := ?_)
    refine r_iload_n hm rfl (k := ?_)
    refine r_callv (j2 := 174) hm rfl rfl rfl rfl rfl rfl (by first | assumption | exact (g1.1 _).trans rfl) (Nat.le_of_ble_eq_true rfl) (Nat.le_of_ble_eq_true rfl) rfl ⟨Nat.le_of_ble_eq_true rfl, Nat.le_of_ble_eq_true rfl, Nat.le_of_ble_eq_true rfl, Nat.le_of_ble_eq_true rfl, Nat.le_of_ble_eq_true rfl⟩ rfl (m_kind g1 hc1 (by omega) hR1 (i := q) (by omega)) (fun v9 h9 p9 => ?_)
    obtain ⟨e1, e2⟩ := p9
    subst e2
    replace e1 := e1.symm
    subst e1
    change RN 211 22 _ _ _ 0 0 _
    dsimp only [Option.toList, List.cons_append, List.nil_append]
    refine r_iconst hm rfl (k := ?_)
    refine r_icmp_ge (t := 30) hm rfl rfl (fun c23 => ?_) (fun c23 => ?_)
    · refine r_iload_n hm rfl (k := ?_)
      refine r_istore_n hm rfl (k := ?_)
      refine r_iconst hm rfl (k := ?_)
      refine r_istore hm rfl (k := ?_)
      suffices LP : ∀ (d jx : Nat) (c : Int), jx + d = S.1.1 → 0 ≤ c ∧ c ≤ jx → nth (lstB S.1 q) kI jx d c = (nth (lstB S.1 q) kI 0 S.1.1 0) → RN 211 35 [some (.inr (.inr (some 1085))), some (.inl (q : Int)), some (.inl kI), some (.inl (kI - c)), some (.inl (jx : Int))] [] h1 0 0 (fun v h2 => InvM L h2 S ∧ FxM h h2 ∧ v = some (.inl (aList S (q : Int) kI))) from by
        have b9 := LP S.1.1 0 0 (by omega) (by omega) rfl
        rw [Int.sub_zero] at b9
        exact b9
      refine fun d => Nat.strongRecOn d (fun d ih => ?_)
      intro jx c hd hcc hr
      refine r_iload hm rfl (k := ?_)
      refine r_aload_n hm rfl (k := ?_)
      refine r_getR (hm := hm) (hf := rfl) (hd := rfl) (hs := (by first | assumption | exact (g1.1 _).trans rfl)) (hv := (by first | assumption | exact g1.2 _ _ _ rfl | exact M0 _ (by omega) | exact M1 _ (by omega) | exact M2 _ (by omega) | exact M3 _ (by omega) | exact M4 _ (by omega) | exact Q0 _ _ (by omega) (by omega) | exact Q1 _ _ (by omega) (by omega) | exact Q2 _ _ (by omega) (by omega))) (k := ?_)
      refine r_iconst hm rfl (k := ?_)
      refine r_iald (hm := hm) (hf := rfl) (hs := (by first | assumption | exact (g1.1 _).trans rfl)) (kk := 3) (hi := by omega) (hn := (by omega)) (hv := (by first | assumption | exact g1.2 _ _ _ rfl | exact M0 _ (by omega) | exact M1 _ (by omega) | exact M2 _ (by omega) | exact M3 _ (by omega) | exact M4 _ (by omega) | exact Q0 _ _ (by omega) (by omega) | exact Q1 _ _ (by omega) (by omega) | exact Q2 _ _ (by omega) (by omega))) (k := ?_)
      refine r_icmp_ge (t := 76) hm rfl rfl (fun c43 => ?_) (fun c43 => ?_)
      · refine r_iconst hm rfl (k := ?_)
        refine r_ireturn hm rfl rfl (by rfl) (Nat.le_of_ble_eq_true rfl) (Nat.le_of_ble_eq_true rfl) ?_
        have eA : aList S (q : Int) kI = (nth (lstB S.1 q) kI 0 S.1.1 0) := by
          unfold aList
          rw [if_neg (by omega), Int.toNat_natCast, if_neg (by omega)]
        refine ⟨I.sm S1 (fun a k z => by unfold regM at z; unfold idleM; omega), S1.mono (fun a k z => by unfold regM at z; omega), ?_⟩
        rw [eA, ← hr, show d = 0 by omega]
        rfl
      · refine r_iload_n hm rfl (k := ?_)
        refine r_if_lt (t := 76) hm rfl rfl (fun c47 => ?_) (fun c47 => ?_)
        · refine r_iconst hm rfl (k := ?_)
          refine r_ireturn hm rfl rfl (by rfl) (Nat.le_of_ble_eq_true rfl) (Nat.le_of_ble_eq_true rfl) ?_
          have eA : aList S (q : Int) kI = (nth (lstB S.1 q) kI 0 S.1.1 0) := by
            unfold aList
            rw [if_neg (by omega), Int.toNat_natCast, if_neg (by omega)]
          refine ⟨I.sm S1 (fun a k z => by unfold regM at z; unfold idleM; omega), S1.mono (fun a k z => by unfold regM at z; omega), ?_⟩
          rw [eA, nth_neg (by omega) _ _ _ (by omega)]
        · refine r_aload_n hm rfl (k := ?_)
          refine r_iload_n hm rfl (k := ?_)
          refine r_iload hm rfl (k := ?_)
          refine r_callv (j2 := 195) hm rfl rfl rfl rfl rfl rfl (by first | assumption | exact (g1.1 _).trans rfl) (Nat.le_of_ble_eq_true rfl) (Nat.le_of_ble_eq_true rfl) rfl ⟨Nat.le_of_ble_eq_true rfl, Nat.le_of_ble_eq_true rfl, Nat.le_of_ble_eq_true rfl, Nat.le_of_ble_eq_true rfl, Nat.le_of_ble_eq_true rfl⟩ rfl (m_isListed g1 hc1 (by omega) hR1 (i := q) (q := jx) (by omega) (by omega) (by omega)) (fun v9 h9 p9 => ?_)
          obtain ⟨e1, e2⟩ := p9
          subst e2
          replace e1 := e1.symm
          subst e1
          obtain ⟨b7, eb7, hb7⟩ := ite01 (p := lstB S.1 q jx = true)
          rw [eb7]
          change RN 211 57 _ _ _ 0 0 _
          dsimp only [Option.toList, List.cons_append, List.nil_append]
          refine r_if_eq (t := 70) hm rfl rfl (fun c57 => ?_) (fun c57 => ?_)
          · refine r_iinc hm rfl (hr := (by omega)) (k := ?_)
            refine r_goto (t := 35) hm rfl (k := ?_)
            have e9 : ¬ lstB S.1 q jx = true := by rcases hb7 with z | z; omega; exact z.1
            exact ih (d - 1) (by omega) (jx + 1) c (by omega) (by omega) (by rw [← hr, nth_go (d := d) (by omega), if_neg e9])
          · refine r_iload_n hm rfl (k := ?_)
            refine r_if_ne (t := 67) hm rfl rfl (fun c61 => ?_) (fun c61 => ?_)
            · refine r_iinc hm rfl (hr := (by omega)) (k := ?_)
              refine r_iinc hm rfl (hr := (by omega)) (k := ?_)
              refine r_goto (t := 35) hm rfl (k := ?_)
              have e9 : lstB S.1 q jx = true := by rcases hb7 with z | z; exact z.1; omega
              have b9 := ih (d - 1) (by omega) (jx + 1) (c + 1) (by omega) (by omega) (by rw [← hr, nth_go (d := d) (by omega), if_pos e9, if_neg (by omega)])
              rw [show kI - (c + 1) = kI - c + -1 by omega] at b9
              exact b9
            · refine r_iload hm rfl (k := ?_)
              refine r_ireturn hm rfl rfl (by rfl) (Nat.le_of_ble_eq_true rfl) (Nat.le_of_ble_eq_true rfl) ?_
              have eA : aList S (q : Int) kI = (nth (lstB S.1 q) kI 0 S.1.1 0) := by
                unfold aList
                rw [if_neg (by omega), Int.toNat_natCast, if_neg (by omega)]
              refine ⟨I.sm S1 (fun a k z => by unfold regM at z; unfold idleM; omega), S1.mono (fun a k z => by unfold regM at z; omega), ?_⟩
              rw [eA, ← hr, nth_go (by omega), if_pos (by rcases hb7 with z | z; exact z.1; omega), if_pos (by omega)]
    · refine r_sipush hm rfl (k := ?_)
      refine r_ireturn hm rfl rfl (by rfl) (Nat.le_of_ble_eq_true rfl) (Nat.le_of_ble_eq_true rfl) ?_
      refine ⟨I.sm S1 (fun a k z => by unfold regM at z; unfold idleM; omega), S1.mono (fun a k z => by unfold regM at z; omega), ?_⟩
      unfold aList
      rw [if_neg (by omega), Int.toNat_natCast, if_pos (by omega)]
  · refine r_sipush hm rfl (k := ?_)
    refine r_ireturn hm rfl rfl (by rfl) (Nat.le_of_ble_eq_true rfl) (Nat.le_of_ble_eq_true rfl) ?_
    refine ⟨I, Sm.refl, ?_⟩
    unfold aList
    rw [if_pos (by omega)]
set_option maxRecDepth 8000 in
theorem m_means {L : Nat} {h : Hp} {S : St} (I : InvM L h S) (ok : okS S) {m : Int} (hm9 : inI m) : RN 213 0 [some (.inr (.inr (some 1085))), some (.inl m)] [] h 0 0 (fun v h2 => InvM L h2 S ∧ FxM h h2 ∧ v = some (.inl (aMeans S m))) := by
  have hm : mrec 213 = some nM213 := rfl
  obtain ⟨g, hR, hV, hK, hG, hL, hB, hFl⟩ := id I
  have hok := ok.1
  obtain ⟨M0, M1, M2, M3, M4, Q0, Q1, Q2, S0, N0, N1⟩ := hR.use
  have n60 := hok.1
  have g1 := g
  have hR1 := hR
  have hH : 8 ≤ S.1.2.2.2 0 ∧ S.1.2.2.2 0 ≤ 60 := by have := hok.2.2.2.2; unfold okStl at this; omega
  refine r_aload_n hm rfl (k := ?_)
  refine r_iconst hm rfl (k := ?_)
  refine r_putI (hm := hm) (hf := rfl) (hd := rfl) (hs := (by first | assumption | exact (g1.1 _).trans rfl)) (hfin := Or.inl rfl) (hz := fun q9 => absurd q9 (by decide)) (k := ?_)
  refine RN.abs (fun h1 => Sm regM h h1 ∧ h1.2.1 1085 12 = ((3 : Nat) : Int)) ⟨Sm.put Sm.refl (by unfold regM; omega), putI_eq⟩ (fun h1 H9 => ?_)
  obtain ⟨S1, hc1⟩ := H9
  replace g1 := S1.gg g
  replace hR1 := S1.repM (fun a k z => regM_R z) hR
  clear M0 M1 M2 M3 M4 Q0 Q1 Q2 S0 N0 N1
  obtain ⟨M0, M1, M2, M3, M4, Q0, Q1, Q2, S0, N0, N1⟩ := hR1.use
  refine r_iload_n hm rfl (k := ?_)
  refine r_i2l hm rfl (k := ?_)
  refine r_lconst hm rfl (k := ?_)
  refine r_ldc2 hm rfl (hd := rfl) (k := ?_)
  refine r_calls (j2 := 162) hm rfl rfl rfl rfl rfl rfl (Nat.le_of_ble_eq_true rfl) (Nat.le_of_ble_eq_true rfl) rfl ⟨Nat.le_of_ble_eq_true rfl, Nat.le_of_ble_eq_true rfl, Nat.le_of_ble_eq_true rfl, Nat.le_of_ble_eq_true rfl, Nat.le_of_ble_eq_true rfl⟩ rfl (m_in (z := m) (a := 0) (b := 99) (zL_t hm9) rfl rfl) (fun v9 h9 p9 => ?_)
  obtain ⟨e1, e2⟩ := p9
  subst e2
  replace e1 := e1.symm
  subst e1
  obtain ⟨b7, eb7, hb7⟩ := ite01 (p := (0 : Int) ≤ m ∧ m ≤ (99 : Int))
  rw [eb7]
  change RN 213 14 _ _ _ 0 0 _
  dsimp only [Option.toList, List.cons_append, List.nil_append]
  refine r_if_eq (t := 25) hm rfl rfl (fun c14 => ?_) (fun c14 => ?_)
  · refine r_sipush hm rfl (k := ?_)
    refine r_ireturn hm rfl rfl (by rfl) (Nat.le_of_ble_eq_true rfl) (Nat.le_of_ble_eq_true rfl) ?_
    refine ⟨I.sm S1 (fun a k z => by unfold regM at z; unfold idleM; omega), S1.mono (fun a k z => by unfold regM at z; omega), ?_⟩
    unfold aMeans
    rw [if_neg (by omega)]
  · refine r_aload_n hm rfl (k := ?_)
    refine r_iload_n hm rfl (k := ?_)
    refine r_callv (j2 := 199) hm rfl rfl rfl rfl rfl rfl (by first | assumption | exact (g1.1 _).trans rfl) (Nat.le_of_ble_eq_true rfl) (Nat.le_of_ble_eq_true rfl) rfl ⟨Nat.le_of_ble_eq_true rfl, Nat.le_of_ble_eq_true rfl, Nat.le_of_ble_eq_true rfl, Nat.le_of_ble_eq_true rfl, Nat.le_of_ble_eq_true rfl⟩ rfl (m_meant g1 hc1 (by omega) hR1 (m := m) (by omega)) (fun v9 h9 p9 => ?_)
    obtain ⟨e1, e2⟩ := p9
    subst e2
    replace e1 := e1.symm
    subst e1
    change RN 213 22 _ _ _ 0 0 _
    dsimp only [Option.toList, List.cons_append, List.nil_append]
    refine r_goto (t := 28) hm rfl (k := ?_)
    refine r_ireturn hm rfl rfl (by rfl) (Nat.le_of_ble_eq_true rfl) (Nat.le_of_ble_eq_true rfl) ?_
    refine ⟨I.sm S1 (fun a k z => by unfold regM at z; unfold idleM; omega), S1.mono (fun a k z => by unfold regM at z; omega), ?_⟩
    unfold aMeans
    rw [if_pos (by omega)]
set_option maxRecDepth 8000 in
theorem m_style {L : Nat} {h : Hp} {S : St} (I : InvM L h S) (ok : okS S) {w : Int} (hw0 : inI w) : RN 240 0 [some (.inr (.inr (some 1085))), some (.inl w)] [] h 0 0 (fun v h2 => InvM L h2 S ∧ FxM h h2 ∧ v = some (.inl (aStyle S w))) := by
  have hm : mrec 240 = some nM240 := rfl
  obtain ⟨g, hR, hV, hK, hG, hL, hB, hFl⟩ := id I
  have hok := ok.1
  obtain ⟨M0, M1, M2, M3, M4, Q0, Q1, Q2, S0, N0, N1⟩ := hR.use
  have n60 := hok.1
  have g1 := g
  have hR1 := hR
  have hH : 8 ≤ S.1.2.2.2 0 ∧ S.1.2.2.2 0 ≤ 60 := by have := hok.2.2.2.2; unfold okStl at this; omega
  refine r_iload_n hm rfl (k := ?_)
  refine r_i2l hm rfl (k := ?_)
  refine r_lconst hm rfl (k := ?_)
  refine r_ldc2 hm rfl (hd := rfl) (k := ?_)
  refine r_calls (j2 := 162) hm rfl rfl rfl rfl rfl rfl (Nat.le_of_ble_eq_true rfl) (Nat.le_of_ble_eq_true rfl) rfl ⟨Nat.le_of_ble_eq_true rfl, Nat.le_of_ble_eq_true rfl, Nat.le_of_ble_eq_true rfl, Nat.le_of_ble_eq_true rfl, Nat.le_of_ble_eq_true rfl⟩ rfl (m_in (z := w) (a := 0) (b := 12) (zL_t hw0) rfl rfl) (fun v9 h9 p9 => ?_)
  obtain ⟨e1, e2⟩ := p9
  subst e2
  replace e1 := e1.symm
  subst e1
  obtain ⟨b7, eb7, hb7⟩ := ite01 (p := (0 : Int) ≤ w ∧ w ≤ (12 : Int))
  rw [eb7]
  change RN 240 9 _ _ _ 0 0 _
  dsimp only [Option.toList, List.cons_append, List.nil_append]
  refine r_if_eq (t := 24) hm rfl rfl (fun c9 => ?_) (fun c9 => ?_)
  · refine r_sipush hm rfl (k := ?_)
    refine r_ireturn hm rfl rfl (by rfl) (Nat.le_of_ble_eq_true rfl) (Nat.le_of_ble_eq_true rfl) ?_
    refine ⟨I, Sm.refl, ?_⟩
    unfold aStyle
    rw [if_neg (by omega)]
  · refine r_aload_n hm rfl (k := ?_)
    refine r_getR (hm := hm) (hf := rfl) (hd := rfl) (hs := (by first | assumption | exact (g1.1 _).trans rfl)) (hv := (by first | assumption | exact g1.2 _ _ _ rfl | exact S0 _ (by omega))) (k := ?_)
    refine r_bipush hm rfl (k := ?_)
    refine r_iload_n hm rfl (k := ?_)
    refine r_iadd hm rfl (hr := (by omega)) (k := ?_)
    refine r_iald (hm := hm) (hf := rfl) (hs := (by first | assumption | exact (g1.1 _).trans rfl)) (kk := 13 * 3 + w.toNat) (hi := by omega) (hn := (by omega)) (hv := (by first | assumption | exact g1.2 _ _ _ rfl | exact S0 _ (by omega))) (k := ?_)
    refine r_goto (t := 27) hm rfl (k := ?_)
    refine r_ireturn hm rfl rfl (by rfl) (Nat.le_of_ble_eq_true rfl) (Nat.le_of_ble_eq_true rfl) ?_
    refine ⟨I, Sm.refl, ?_⟩
    unfold aStyle
    rw [if_pos (by omega)]
theorem m_fault {L : Nat} {h : Hp} {S : St} (I : InvM L h S) (ok : okS S) : RN 239 0 [some (.inr (.inr (some 1085)))] [] h 0 0 (fun v h2 => InvM L h2 S ∧ FxM h h2 ∧ v = some (.inl (S.2.2.2.2.2.2))) := by
  have hm : mrec 239 = some nM239 := rfl
  obtain ⟨g, hR, hV, hK, hG, hL, hB, hFl⟩ := id I
  have hok := ok.1
  obtain ⟨M0, M1, M2, M3, M4, Q0, Q1, Q2, S0, N0, N1⟩ := hR.use
  have n60 := hok.1
  have g1 := g
  have hR1 := hR
  have hH : 8 ≤ S.1.2.2.2 0 ∧ S.1.2.2.2 0 ≤ 60 := by have := hok.2.2.2.2; unfold okStl at this; omega
  refine r_aload_n hm rfl (k := ?_)
  refine r_getI (hm := hm) (hf := rfl) (hd := rfl) (hs := (by first | assumption | exact (g1.1 _).trans rfl)) (hv := (by first | exact putI_eq | exact (putI_ne (by omega)).trans (by first | exact putI_eq | exact (putI_ne (by omega)).trans (by first | exact putI_eq | exact (putI_ne (by omega)).trans (by first | exact putI_eq | exact (putI_ne (by omega)).trans (by first | exact putI_eq | exact (putI_ne (by omega)).trans (by first | exact putI_eq | exact (putI_ne (by omega)).trans (by first | exact putI_eq | exact (putI_ne (by omega)).trans (by first | first | assumption | exact g1.2 _ _ _ rfl | exact vus _ (by omega) (by omega) | exact vwr _ (by omega)) | first | assumption | exact g1.2 _ _ _ rfl | exact vus _ (by omega) (by omega) | exact vwr _ (by omega)) | first | assumption | exact g1.2 _ _ _ rfl | exact vus _ (by omega) (by omega) | exact vwr _ (by omega)) | first | assumption | exact g1.2 _ _ _ rfl | exact vus _ (by omega) (by omega) | exact vwr _ (by omega)) | first | assumption | exact g1.2 _ _ _ rfl | exact vus _ (by omega) (by omega) | exact vwr _ (by omega)) | first | assumption | exact g1.2 _ _ _ rfl | exact vus _ (by omega) (by omega) | exact vwr _ (by omega)) | first | assumption | exact g1.2 _ _ _ rfl | exact vus _ (by omega) (by omega) | exact vwr _ (by omega)) | first | assumption | exact g1.2 _ _ _ rfl | exact vus _ (by omega) (by omega) | exact vwr _ (by omega))) (k := ?_)
  refine r_ireturn hm rfl rfl (by rfl) (Nat.le_of_ble_eq_true rfl) (Nat.le_of_ble_eq_true rfl) ?_
  exact ⟨I, Sm.refl, rfl⟩
theorem ccl_eq {x : Tx} (hok : okTx x) {q : Nat} : sm (fun i => sm (fun k => if x.2.2.1 0 i k = 1 ∧ mnt x i k = (q : Int) then (1 : Int) else 0) 0 (pcs x i)) 0 x.1 = ccl x q := by
  refine sm_congr _ _ (fun i _ hi => sm_congr _ _ (fun k _ hk => ?_))
  have e := mtm_iff hok (i := q) (q := i) (k := k) (by omega) (by omega)
  by_cases c : x.2.2.1 0 i k = 1 ∧ mnt x i k = (q : Int)
  · rw [if_pos c, if_pos (e.mpr c)]
  · rw [if_neg c, if_neg (fun z => c (e.mp z))]
set_option maxRecDepth 8000 in
theorem m_called {L : Nat} {h : Hp} {S : St} (I : InvM L h S) (ok : okS S) {i : Int} (hi0 : inI i) : RN 214 0 [some (.inr (.inr (some 1085))), some (.inl i), none, none, none] [] h 0 0 (fun v h2 => InvM L h2 S ∧ FxM h h2 ∧ v = some (.inl (aCalled S i))) := by
  have hm : mrec 214 = some nM214 := rfl
  obtain ⟨g, hR, hV, hK, hG, hL, hB, hFl⟩ := id I
  have hok := ok.1
  obtain ⟨M0, M1, M2, M3, M4, Q0, Q1, Q2, S0, N0, N1⟩ := hR.use
  have n60 := hok.1
  have g1 := g
  have hR1 := hR
  have hH : 8 ≤ S.1.2.2.2 0 ∧ S.1.2.2.2 0 ≤ 60 := by have := hok.2.2.2.2; unfold okStl at this; omega
  refine r_aload_n hm rfl (k := ?_)
  refine r_iload_n hm rfl (k := ?_)
  refine r_callv (j2 := 165) hm rfl rfl rfl rfl rfl rfl (by first | assumption | exact (g1.1 _).trans rfl) (Nat.le_of_ble_eq_true rfl) (Nat.le_of_ble_eq_true rfl) rfl ⟨Nat.le_of_ble_eq_true rfl, Nat.le_of_ble_eq_true rfl, Nat.le_of_ble_eq_true rfl, Nat.le_of_ble_eq_true rfl, Nat.le_of_ble_eq_true rfl⟩ rfl (m_isItem g hR hi0) (fun v9 h9 p9 => ?_)
  obtain ⟨e1, e2⟩ := p9
  subst e2
  replace e1 := e1.symm
  subst e1
  obtain ⟨b9, eb9, hb9⟩ := ite01 (p := 0 ≤ i ∧ i < (S.1.1 : Int))
  rw [eb9]
  change RN 214 5 _ _ _ 0 0 _
  dsimp only [Option.toList, List.cons_append, List.nil_append]
  refine r_if_ne (t := 12) hm rfl rfl (fun c5 => ?_) (fun c5 => ?_)
  · obtain ⟨q, rfl⟩ := Int.eq_ofNat_of_zero_le (show 0 ≤ i by omega)
    refine r_aload_n hm rfl (k := ?_)
    refine r_iconst hm rfl (k := ?_)
    refine r_putI (hm := hm) (hf := rfl) (hd := rfl) (hs := (by first | assumption | exact (g1.1 _).trans rfl)) (hfin := Or.inl rfl) (hz := fun q9 => absurd q9 (by decide)) (k := ?_)
    refine RN.abs (fun h1 => Sm regM h h1 ∧ h1.2.1 1085 12 = ((3 : Nat) : Int)) ⟨Sm.put Sm.refl (by unfold regM; omega), putI_eq⟩ (fun h1 H9 => ?_)
    obtain ⟨S1, hc1⟩ := H9
    replace g1 := S1.gg g
    replace hR1 := S1.repM (fun a k z => regM_R z) hR
    clear M0 M1 M2 M3 M4 Q0 Q1 Q2 S0 N0 N1
    obtain ⟨M0, M1, M2, M3, M4, Q0, Q1, Q2, S0, N0, N1⟩ := hR1.use
    refine r_iconst hm rfl (k := ?_)
    refine r_istore_n hm rfl (k := ?_)
    refine r_iconst hm rfl (k := ?_)
    refine r_istore_n hm rfl (k := ?_)
    have eA : aCalled S (q : Int) = sm (fun i => sm (fun k => if S.1.2.2.1 0 i k = 1 ∧ mnt S.1 i k = (q : Int) then (1 : Int) else 0) 0 (pcs S.1 i)) 0 S.1.1 := by
      unfold aCalled
      rw [if_neg (by omega), Int.toNat_natCast, ccl_eq hok]
    suffices LP : ∀ (d i : Nat) (s : Int) (z4 : Option Vl), i + d = S.1.1 → 0 ≤ s ∧ s ≤ 20 * i → s + sm (fun i => sm (fun k => if S.1.2.2.1 0 i k = 1 ∧ mnt S.1 i k = (q : Int) then (1 : Int) else 0) 0 (pcs S.1 i)) i d = sm (fun i => sm (fun k => if S.1.2.2.1 0 i k = 1 ∧ mnt S.1 i k = (q : Int) then (1 : Int) else 0) 0 (pcs S.1 i)) 0 S.1.1 → RN 214 21 [some (.inr (.inr (some 1085))), some (.inl (q : Int)), some (.inl s), some (.inl (i : Int)), z4] [] h1 0 0 (fun v h2 => InvM L h2 S ∧ FxM h h2 ∧ v = some (.inl (aCalled S (q : Int)))) from LP S.1.1 0 0 _ (by omega) (by omega) (by omega)
    refine fun d => Nat.strongRecOn d (fun d ih => ?_)
    intro i s z4 hd hs hr
    refine r_iload_n hm rfl (k := ?_)
    refine r_aload_n hm rfl (k := ?_)
    refine r_getR (hm := hm) (hf := rfl) (hd := rfl) (hs := (by first | assumption | exact (g1.1 _).trans rfl)) (hv := (by first | assumption | exact g1.2 _ _ _ rfl | exact M0 _ (by omega) | exact M1 _ (by omega) | exact M2 _ (by omega) | exact M3 _ (by omega) | exact M4 _ (by omega) | exact Q0 _ _ (by omega) (by omega) | exact Q1 _ _ (by omega) (by omega) | exact Q2 _ _ (by omega) (by omega))) (k := ?_)
    refine r_iconst hm rfl (k := ?_)
    refine r_iald (hm := hm) (hf := rfl) (hs := (by first | assumption | exact (g1.1 _).trans rfl)) (kk := 3) (hi := by omega) (hn := (by omega)) (hv := (by first | assumption | exact g1.2 _ _ _ rfl | exact M0 _ (by omega) | exact M1 _ (by omega) | exact M2 _ (by omega) | exact M3 _ (by omega) | exact M4 _ (by omega) | exact Q0 _ _ (by omega) (by omega) | exact Q1 _ _ (by omega) (by omega) | exact Q2 _ _ (by omega) (by omega))) (k := ?_)
    refine r_icmp_ge (t := 100) hm rfl rfl (fun c28 => ?_) (fun c28 => ?_)
    · refine r_iload_n hm rfl (k := ?_)
      refine r_ireturn hm rfl rfl (by rfl) (Nat.le_of_ble_eq_true rfl) (Nat.le_of_ble_eq_true rfl) ?_
      have e0 : d = 0 := by omega
      subst e0
      have e1 : sm (fun i => sm (fun k => if S.1.2.2.1 0 i k = 1 ∧ mnt S.1 i k = (q : Int) then (1 : Int) else 0) 0 (pcs S.1 i)) i 0 = 0 := rfl
      refine ⟨I.sm S1 (fun a k z => by unfold regM at z; unfold idleM; omega), S1.mono (fun a k z => by unfold regM at z; omega), ?_⟩
      rw [eA, ← hr, e1, Int.add_zero]
    · have hi2 : i < S.1.1 := by omega
      obtain ⟨ep, ep2⟩ := pcs_eq hok hi2
      refine r_iconst hm rfl (k := ?_)
      refine r_istore hm rfl (k := ?_)
      have hgo := sm_go (f := (fun i => sm (fun k => if S.1.2.2.1 0 i k = 1 ∧ mnt S.1 i k = (q : Int) then (1 : Int) else 0) 0 (pcs S.1 i))) (i := i) (d := d) (by omega)
      have hbb := sm_le (f := (fun k => if S.1.2.2.1 0 i k = 1 ∧ mnt S.1 i k = (q : Int) then (1 : Int) else 0)) (B := 1) (fun k => by split <;> omega) (pcs S.1 i) 0
      suffices LP : ∀ (d2 k : Nat) (s2 : Int), k + d2 = pcs S.1 i → 0 ≤ s2 ∧ s2 ≤ 20 * i + k → s2 + sm (fun k => if S.1.2.2.1 0 i k = 1 ∧ mnt S.1 i k = (q : Int) then (1 : Int) else 0) k d2 = s + sm (fun k => if S.1.2.2.1 0 i k = 1 ∧ mnt S.1 i k = (q : Int) then (1 : Int) else 0) 0 (pcs S.1 i) → RN 214 34 [some (.inr (.inr (some 1085))), some (.inl (q : Int)), some (.inl s2), some (.inl (i : Int)), some (.inl (k : Int))] [] h1 0 0 (fun v h2 => InvM L h2 S ∧ FxM h h2 ∧ v = some (.inl (aCalled S (q : Int)))) from LP (pcs S.1 i) 0 s (by omega) (by omega) rfl
      refine fun d2 => Nat.strongRecOn d2 (fun d2 ih2 => ?_)
      intro k s2 hd2 hs2 hr2
      refine r_iload hm rfl (k := ?_)
      refine r_aload_n hm rfl (k := ?_)
      refine r_iload_n hm rfl (k := ?_)
      refine r_callv (j2 := 181) hm rfl rfl rfl rfl rfl rfl (by first | assumption | exact (g1.1 _).trans rfl) (Nat.le_of_ble_eq_true rfl) (Nat.le_of_ble_eq_true rfl) rfl ⟨Nat.le_of_ble_eq_true rfl, Nat.le_of_ble_eq_true rfl, Nat.le_of_ble_eq_true rfl, Nat.le_of_ble_eq_true rfl, Nat.le_of_ble_eq_true rfl⟩ rfl (m_piecesOf g1 hc1 (by omega) hR1 (i := i) (by omega)) (fun v9 h9 p9 => ?_)
      obtain ⟨e1, e2⟩ := p9
      subst e2
      replace e1 := e1.symm
      subst e1
      change RN 214 41 _ _ _ 0 0 _
      dsimp only [Option.toList, List.cons_append, List.nil_append]
      refine r_icmp_ge (t := 94) hm rfl rfl (fun c41 => ?_) (fun c41 => ?_)
      · refine r_iinc hm rfl (hr := (by omega)) (k := ?_)
        refine r_goto (t := 21) hm rfl (k := ?_)
        have e0 : d2 = 0 := by omega
        subst e0
        have e1 : sm (fun k => if S.1.2.2.1 0 i k = 1 ∧ mnt S.1 i k = (q : Int) then (1 : Int) else 0) k 0 = 0 := rfl
        exact ih (d - 1) (by omega) (i + 1) s2 _ (by omega) (by omega) (by omega)
      · have hz := hok.2.2.1 i k hi2 (by omega)
        unfold okPc at hz
        refine r_iload_n hm rfl (k := ?_)
        refine r_aload_n hm rfl (k := ?_)
        refine r_getR (hm := hm) (hf := rfl) (hd := rfl) (hs := (by first | assumption | exact (g1.1 _).trans rfl)) (hv := (by first | assumption | exact g1.2 _ _ _ rfl | exact M0 _ (by omega) | exact M1 _ (by omega) | exact M2 _ (by omega) | exact M3 _ (by omega) | exact M4 _ (by omega) | exact Q0 _ _ (by omega) (by omega) | exact Q1 _ _ (by omega) (by omega) | exact Q2 _ _ (by omega) (by omega))) (k := ?_)
        refine r_aload_n hm rfl (k := ?_)
        refine r_iload_n hm rfl (k := ?_)
        refine r_iload hm rfl (k := ?_)
        refine r_callv (j2 := 186) hm rfl rfl rfl rfl rfl rfl (by first | assumption | exact (g1.1 _).trans rfl) (Nat.le_of_ble_eq_true rfl) (Nat.le_of_ble_eq_true rfl) rfl ⟨Nat.le_of_ble_eq_true rfl, Nat.le_of_ble_eq_true rfl, Nat.le_of_ble_eq_true rfl, Nat.le_of_ble_eq_true rfl, Nat.le_of_ble_eq_true rfl⟩ rfl (m_place g1 hc1 (by omega) hR1 (i := i) (k := k) (by omega) (by omega)) (fun v9 h9 p9 => ?_)
        obtain ⟨e1, e2⟩ := p9
        subst e2
        replace e1 := e1.symm
        subst e1
        change RN 214 56 _ _ _ 0 0 _
        dsimp only [Option.toList, List.cons_append, List.nil_append]
        refine r_iald (hm := hm) (hf := rfl) (hs := (by first | assumption | exact (g1.1 _).trans rfl)) (hi := rfl) (hn := (by omega)) (hv := (by first | assumption | exact g1.2 _ _ _ rfl | exact M0 _ (by omega) | exact M1 _ (by omega) | exact M2 _ (by omega) | exact M3 _ (by omega) | exact M4 _ (by omega) | exact Q0 _ _ (by omega) (by omega) | exact Q1 _ _ (by omega) (by omega) | exact Q2 _ _ (by omega) (by omega))) (k := ?_)
        refine r_iconst hm rfl (k := ?_)
        refine r_icmp_ne (t := 85) hm rfl rfl (fun c58 => ?_) (fun c58 => ?_)
        · refine r_iconst hm rfl (k := ?_)
          refine r_iadd hm rfl (hr := (by omega)) (k := ?_)
          refine r_istore_n hm rfl (k := ?_)
          refine r_iinc hm rfl (hr := (by omega)) (k := ?_)
          refine r_goto (t := 34) hm rfl (k := ?_)
          have hg2 := sm_go (f := (fun k => if S.1.2.2.1 0 i k = 1 ∧ mnt S.1 i k = (q : Int) then (1 : Int) else 0)) (i := k) (d := d2) (by omega)
          try dsimp only at hg2
          rw [if_neg (by omega)] at hg2
          exact ih2 (d2 - 1) (by omega) (k + 1) _ (by omega) (by omega) (by omega)
        · have qM := m_meant g1 hc1 (by omega) hR1 (m := S.1.2.2.1 1 i k) (by omega)
          rw [show fi (fun q9 => S.1.2.1 3 q9 == S.1.2.2.1 1 i k) 0 S.1.1 = mnt S.1 i k from (if_pos (by omega)).symm] at qM
          refine r_aload_n hm rfl (k := ?_)
          refine r_aload_n hm rfl (k := ?_)
          refine r_getR (hm := hm) (hf := rfl) (hd := rfl) (hs := (by first | assumption | exact (g1.1 _).trans rfl)) (hv := (by first | assumption | exact g1.2 _ _ _ rfl | exact M0 _ (by omega) | exact M1 _ (by omega) | exact M2 _ (by omega) | exact M3 _ (by omega) | exact M4 _ (by omega) | exact Q0 _ _ (by omega) (by omega) | exact Q1 _ _ (by omega) (by omega) | exact Q2 _ _ (by omega) (by omega))) (k := ?_)
          refine r_aload_n hm rfl (k := ?_)
          refine r_iload_n hm rfl (k := ?_)
          refine r_iload hm rfl (k := ?_)
          refine r_callv (j2 := 186) hm rfl rfl rfl rfl rfl rfl (by first | assumption | exact (g1.1 _).trans rfl) (Nat.le_of_ble_eq_true rfl) (Nat.le_of_ble_eq_true rfl) rfl ⟨Nat.le_of_ble_eq_true rfl, Nat.le_of_ble_eq_true rfl, Nat.le_of_ble_eq_true rfl, Nat.le_of_ble_eq_true rfl, Nat.le_of_ble_eq_true rfl⟩ rfl (m_place g1 hc1 (by omega) hR1 (i := i) (k := k) (by omega) (by omega)) (fun v9 h9 p9 => ?_)
          obtain ⟨e1, e2⟩ := p9
          subst e2
          replace e1 := e1.symm
          subst e1
          change RN 214 73 _ _ _ 0 0 _
          dsimp only [Option.toList, List.cons_append, List.nil_append]
          refine r_iald (hm := hm) (hf := rfl) (hs := (by first | assumption | exact (g1.1 _).trans rfl)) (hi := rfl) (hn := (by omega)) (hv := (by first | assumption | exact g1.2 _ _ _ rfl | exact M0 _ (by omega) | exact M1 _ (by omega) | exact M2 _ (by omega) | exact M3 _ (by omega) | exact M4 _ (by omega) | exact Q0 _ _ (by omega) (by omega) | exact Q1 _ _ (by omega) (by omega) | exact Q2 _ _ (by omega) (by omega))) (k := ?_)
          refine r_callv (j2 := 199) hm rfl rfl rfl rfl rfl rfl (by first | assumption | exact (g1.1 _).trans rfl) (Nat.le_of_ble_eq_true rfl) (Nat.le_of_ble_eq_true rfl) rfl ⟨Nat.le_of_ble_eq_true rfl, Nat.le_of_ble_eq_true rfl, Nat.le_of_ble_eq_true rfl, Nat.le_of_ble_eq_true rfl, Nat.le_of_ble_eq_true rfl⟩ rfl (qM) (fun v9 h9 p9 => ?_)
          obtain ⟨e1, e2⟩ := p9
          subst e2
          replace e1 := e1.symm
          subst e1
          change RN 214 77 _ _ _ 0 0 _
          dsimp only [Option.toList, List.cons_append, List.nil_append]
          refine r_iload_n hm rfl (k := ?_)
          refine r_icmp_ne (t := 85) hm rfl rfl (fun c78 => ?_) (fun c78 => ?_)
          · refine r_iconst hm rfl (k := ?_)
            refine r_iadd hm rfl (hr := (by omega)) (k := ?_)
            refine r_istore_n hm rfl (k := ?_)
            refine r_iinc hm rfl (hr := (by omega)) (k := ?_)
            refine r_goto (t := 34) hm rfl (k := ?_)
            have hg2 := sm_go (f := (fun k => if S.1.2.2.1 0 i k = 1 ∧ mnt S.1 i k = (q : Int) then (1 : Int) else 0)) (i := k) (d := d2) (by omega)
            try dsimp only at hg2
            rw [if_neg (by omega)] at hg2
            exact ih2 (d2 - 1) (by omega) (k + 1) _ (by omega) (by omega) (by omega)
          · refine r_iconst hm rfl (k := ?_)
            refine r_goto (t := 86) hm rfl (k := ?_)
            refine r_iadd hm rfl (hr := (by omega)) (k := ?_)
            refine r_istore_n hm rfl (k := ?_)
            refine r_iinc hm rfl (hr := (by omega)) (k := ?_)
            refine r_goto (t := 34) hm rfl (k := ?_)
            have hg2 := sm_go (f := (fun k => if S.1.2.2.1 0 i k = 1 ∧ mnt S.1 i k = (q : Int) then (1 : Int) else 0)) (i := k) (d := d2) (by omega)
            try dsimp only at hg2
            rw [if_pos (by omega)] at hg2
            exact ih2 (d2 - 1) (by omega) (k + 1) _ (by omega) (by omega) (by omega)
  · refine r_sipush hm rfl (k := ?_)
    refine r_ireturn hm rfl rfl (by rfl) (Nat.le_of_ble_eq_true rfl) (Nat.le_of_ble_eq_true rfl) ?_
    refine ⟨I, Sm.refl, ?_⟩
    unfold aCalled
    rw [if_pos (by omega)]
