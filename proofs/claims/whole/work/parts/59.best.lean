/-! mark, piece, drop of the reference; best -/
theorem RepM_fd {h : Hp} {x : Tx} {f q : Nat} {v : Int} (R : RepM h 3 x) (hf : f < 5) (hq : q < x.1) (hv : f = 4 → v ≤ x.2.1 4 q) : RepM (putI h (1088 + f) (180 + q) v) 3 (fdT x f q v) := by
  obtain ⟨R1, R2, R3, R4, R5⟩ := R
  refine ⟨(putI_ne (by omega)).trans R1, R2, fun g i hg hi => ?_, fun g i k hg hi hk => ?_, fun k hk => (putI_ne (by omega)).trans (R5 k hk)⟩
  · have hi2 : i < x.1 := hi
    show _ = if g = f ∧ i = q then v else x.2.1 g i
    by_cases c : g = f ∧ i = q
    · rw [if_pos c, c.1, c.2]
      exact putI_eq
    · rw [if_neg c, putI_ne (by omega)]; exact R3 g i hg hi2
  · have hi2 : i < x.1 := hi
    have hk2 : (k : Int) < if 4 = f ∧ i = q then v else x.2.1 4 i := hk
    have hk3 : (k : Int) < x.2.1 4 i := by
      by_cases c : 4 = f ∧ i = q
      · rw [if_pos c] at hk2
        have := hv c.1.symm
        rw [c.2]
        omega
      · rw [if_neg c] at hk2; exact hk2
    rw [putI_ne (by omega)]; exact R4 g i k hg hi2 hk3
theorem RepM_pc {h : Hp} {x : Tx} {q n : Nat} {a b c : Int} (R : RepM h 3 x) (h20 : ∀ i, i < x.1 → x.2.1 4 i ≤ 20) (hq : q < x.1) (hn : x.2.1 4 q = (n : Int)) (hn2 : n < 20) : RepM (putI (putI (putI (putI h 1093 (20 * (180 + q) + n) a) 1094 (20 * (180 + q) + n) b) 1095 (20 * (180 + q) + n) c) 1092 (180 + q) ((n : Int) + 1)) 3 (pcT x q a b c) := by
  obtain ⟨R1, R2, R3, R4, R5⟩ := R
  refine ⟨?_, R2, fun g i hg hi => ?_, fun g i k hg hi hk => ?_, fun k hk => ?_⟩
  · simp (disch := omega) only [putI_fne, putI_feq, upf_ne, upf_eq]; exact R1
  · have hi2 : i < x.1 := hi
    show _ = if g = 4 ∧ i = q then x.2.1 4 q + 1 else x.2.1 g i
    by_cases c : g = 4 ∧ i = q
    · rw [if_pos c, c.1, c.2, hn]
      exact putI_eq
    · rw [if_neg c, putI_ne (by omega), putI_ne (by omega), putI_ne (by omega), putI_ne (by omega)]; exact R3 g i hg hi2
  · have hi2 : i < x.1 := hi
    have hi3 := h20 i hi2
    have hk2 : (k : Int) < if 4 = 4 ∧ i = q then x.2.1 4 q + 1 else x.2.1 4 i := hk
    show _ = if i = q ∧ (k : Int) = x.2.1 4 q then (if g = 0 then a else if g = 1 then b else c) else x.2.2.1 g i k
    rw [putI_ne (by omega)]
    by_cases d : i = q
    · subst d
      rw [if_pos ⟨rfl, rfl⟩] at hk2
      by_cases ck : (k : Int) = x.2.1 4 i
      · have ck2 : k = n := by omega
        subst ck2
        rw [if_pos ⟨rfl, ck⟩]
        have : g = 0 ∨ g = 1 ∨ g = 2 := by omega
        rcases this with rfl | rfl | rfl
        · rw [putI_ne (by omega), putI_ne (by omega)]; exact putI_eq
        · rw [putI_ne (by omega)]; exact putI_eq
        · exact putI_eq
      · rw [if_neg (by omega), putI_ne (by omega), putI_ne (by omega), putI_ne (by omega)]
        exact R4 g i k hg hi2 (by omega)
    · rw [if_neg (by omega)] at hk2
      rw [if_neg (by omega), putI_ne (by omega), putI_ne (by omega), putI_ne (by omega)]
      exact R4 g i k hg hi2 hk2
  · simp (disch := omega) only [putI_fne, putI_feq, upf_ne, upf_eq]
    exact R5 k hk
set_option maxRecDepth 8000 in
theorem m_mark {L : Nat} {h : Hp} {S : St} (I : InvM L h S) (ok : okS S) {i m : Int} (hi0 : inI i) (hm9 : inI m) : RN 169 0 [some (.inr (.inr (some 1085))), some (.inl i), some (.inl m), none] [] h 0 0 (fun v h2 => InvM L h2 (oMark S i m) ∧ FxM h h2 ∧ v = some (.inl (aMark S i m))) := by
  have hm : mrec 169 = some nM169 := rfl
  obtain ⟨g, hR, hV, hK, hG, hL, hB, hFl⟩ := id I
  have hok := ok.1
  obtain ⟨M0, M1, M2, M3, M4, Q0, Q1, Q2, S0, N0, N1⟩ := hR.use
  have n60 := hok.1
  have g1 := g
  have hR1 := hR
  have hH : 8 ≤ S.1.2.2.2 0 ∧ S.1.2.2.2 0 ≤ 60 := by have := hok.2.2.2.2; unfold okStl at this; omega
  refine r_aload_n hm rfl (k := ?_)
  refine r_iload_n hm rfl (k := ?_)
  refine r_callv (j2 := 165) hm rfl rfl rfl rfl rfl rfl (by first | assumption | exact (g1.1 _).trans rfl) (Nat.le_of_ble_eq_true rfl) (Nat.le_of_ble_eq_true rfl) rfl ⟨Nat.le_of_ble_eq_true rfl, Nat.le_of_ble_eq_true rfl, Nat.le_of_ble_eq_true rfl, Nat.le_of_ble_eq_true rfl, Nat.le_of_ble_eq_true rfl⟩ rfl (m_isItem g hR hi0) (fun v9 h9 p9 => ?_)
  obtain ⟨e1, e2⟩ := p9
  subst e2
  replace e1 := e1.symm
  subst e1
  obtain ⟨b9, eb9, hb9⟩ := ite01 (p := 0 ≤ i ∧ i < (S.1.1 : Int))
  rw [eb9]
  change RN 169 5 _ _ _ 0 0 _
  dsimp only [Option.toList, List.cons_append, List.nil_append]
  refine r_if_ne (t := 12) hm rfl rfl (fun c5 => ?_) (fun c5 => ?_)
  · obtain ⟨q, rfl⟩ := Int.eq_ofNat_of_zero_le (show 0 ≤ i by omega)
    refine r_iload_n hm rfl (k := ?_)
    refine r_i2l hm rfl (k := ?_)
    refine r_ldc2 hm rfl (hd := rfl) (k := ?_)
    refine r_ldc2 hm rfl (hd := rfl) (k := ?_)
    refine r_calls (j2 := 162) hm rfl rfl rfl rfl rfl rfl (Nat.le_of_ble_eq_true rfl) (Nat.le_of_ble_eq_true rfl) rfl ⟨Nat.le_of_ble_eq_true rfl, Nat.le_of_ble_eq_true rfl, Nat.le_of_ble_eq_true rfl, Nat.le_of_ble_eq_true rfl, Nat.le_of_ble_eq_true rfl⟩ rfl (m_in (z := m) (a := -1) (b := 99) (zL_t hm9) rfl rfl) (fun v9 h9 p9 => ?_)
    obtain ⟨e1, e2⟩ := p9
    subst e2
    replace e1 := e1.symm
    subst e1
    obtain ⟨b8, eb8, hb8⟩ := ite01 (p := (-1 : Int) ≤ m ∧ m ≤ (99 : Int))
    rw [eb8]
    change RN 169 23 _ _ _ 0 0 _
    dsimp only [Option.toList, List.cons_append, List.nil_append]
    refine r_if_ne (t := 30) hm rfl rfl (fun c23 => ?_) (fun c23 => ?_)
    · refine r_aload_n hm rfl (k := ?_)
      refine r_getR (hm := hm) (hf := rfl) (hd := rfl) (hs := (by first | assumption | exact (g1.1 _).trans rfl)) (hv := (by first | assumption | exact g1.2 _ _ _ rfl | exact M0 _ (by omega) | exact M1 _ (by omega) | exact M2 _ (by omega) | exact M3 _ (by omega) | exact M4 _ (by omega) | exact Q0 _ _ (by omega) (by omega) | exact Q1 _ _ (by omega) (by omega) | exact Q2 _ _ (by omega) (by omega))) (k := ?_)
      refine r_sipush hm rfl (k := ?_)
      refine r_iload_n hm rfl (k := ?_)
      refine r_iadd hm rfl (hr := (by omega)) (k := ?_)
      refine r_iald (hm := hm) (hf := rfl) (hs := (by first | assumption | exact (g1.1 _).trans rfl)) (kk := 60 * 3 + q) (hi := by omega) (hn := (by omega)) (hv := (by first | assumption | exact g1.2 _ _ _ rfl | exact M0 _ (by omega) | exact M1 _ (by omega) | exact M2 _ (by omega) | exact M3 _ (by omega) | exact M4 _ (by omega) | exact Q0 _ _ (by omega) (by omega) | exact Q1 _ _ (by omega) (by omega) | exact Q2 _ _ (by omega) (by omega))) (k := ?_)
      refine r_istore_n hm rfl (k := ?_)
      refine r_aload_n hm rfl (k := ?_)
      refine r_getR (hm := hm) (hf := rfl) (hd := rfl) (hs := (by first | assumption | exact (g1.1 _).trans rfl)) (hv := (by first | assumption | exact g1.2 _ _ _ rfl | exact M0 _ (by omega) | exact M1 _ (by omega) | exact M2 _ (by omega) | exact M3 _ (by omega) | exact M4 _ (by omega) | exact Q0 _ _ (by omega) (by omega) | exact Q1 _ _ (by omega) (by omega) | exact Q2 _ _ (by omega) (by omega))) (k := ?_)
      refine r_sipush hm rfl (k := ?_)
      refine r_iload_n hm rfl (k := ?_)
      refine r_iadd hm rfl (hr := (by omega)) (k := ?_)
      refine r_iload_n hm rfl (k := ?_)
      refine r_iast (hm := hm) (hf := rfl) (h28 := (by omega)) (hs := (by first | assumption | exact (g1.1 _).trans rfl)) (kk := 180 + q) (hi := by omega) (hn := (by omega)) (k := ?_)
      refine r_iload_n hm rfl (k := ?_)
      refine r_ireturn hm rfl rfl (by rfl) (Nat.le_of_ble_eq_true rfl) (Nat.le_of_ble_eq_true rfl) ?_
      have SX : Sm (fun a k => (1088 ≤ a ∧ a ≤ 1092 ∧ 180 ≤ k) ∨ (1093 ≤ a ∧ a ≤ 1095 ∧ 3600 ≤ k)) h (putI h 1091 (180 + q) m) := Sm.put Sm.refl (by omega)
      unfold oMark aMark
      rw [if_pos (by omega), if_neg (by omega), if_neg (by omega), Int.toNat_natCast]
      exact ⟨I.mut ok SX (fun a k z => by omega) (RepM_fd hR (f := 3) (by omega) (by omega) (fun z => by omega)) ((SX.2.2 _ _ (by omega)).trans hG), SX.mono (fun a k z => by omega), rfl⟩
    · refine r_sipush hm rfl (k := ?_)
      refine r_ireturn hm rfl rfl (by rfl) (Nat.le_of_ble_eq_true rfl) (Nat.le_of_ble_eq_true rfl) ?_
      unfold oMark aMark
      rw [if_neg (by omega), if_neg (by omega), if_pos (by omega)]
      exact ⟨I, Sm.refl, rfl⟩
  · refine r_sipush hm rfl (k := ?_)
    refine r_ireturn hm rfl rfl (by rfl) (Nat.le_of_ble_eq_true rfl) (Nat.le_of_ble_eq_true rfl) ?_
    unfold oMark aMark
    rw [if_neg (by omega), if_pos (by omega)]
    exact ⟨I, Sm.refl, rfl⟩
set_option maxRecDepth 8000 in
theorem m_drop {L : Nat} {h : Hp} {S : St} (I : InvM L h S) (ok : okS S) {i : Int} (hi0 : inI i) : RN 171 0 [some (.inr (.inr (some 1085))), some (.inl i)] [] h 0 0 (fun v h2 => InvM L h2 (oDrop S i) ∧ FxM h h2 ∧ v = some (.inl (aDrop S i))) := by
  have hm : mrec 171 = some nM171 := rfl
  obtain ⟨g, hR, hV, hK, hG, hL, hB, hFl⟩ := id I
  have hok := ok.1
  obtain ⟨M0, M1, M2, M3, M4, Q0, Q1, Q2, S0, N0, N1⟩ := hR.use
  have n60 := hok.1
  have g1 := g
  have hR1 := hR
  have hH : 8 ≤ S.1.2.2.2 0 ∧ S.1.2.2.2 0 ≤ 60 := by have := hok.2.2.2.2; unfold okStl at this; omega
  refine r_aload_n hm rfl (k := ?_)
  refine r_iload_n hm rfl (k := ?_)
  refine r_callv (j2 := 165) hm rfl rfl rfl rfl rfl rfl (by first | assumption | exact (g1.1 _).trans rfl) (Nat.le_of_ble_eq_true rfl) (Nat.le_of_ble_eq_true rfl) rfl ⟨Nat.le_of_ble_eq_true rfl, Nat.le_of_ble_eq_true rfl, Nat.le_of_ble_eq_true rfl, Nat.le_of_ble_eq_true rfl, Nat.le_of_ble_eq_true rfl⟩ rfl (m_isItem g hR hi0) (fun v9 h9 p9 => ?_)
  obtain ⟨e1, e2⟩ := p9
  subst e2
  replace e1 := e1.symm
  subst e1
  obtain ⟨b9, eb9, hb9⟩ := ite01 (p := 0 ≤ i ∧ i < (S.1.1 : Int))
  rw [eb9]
  change RN 171 5 _ _ _ 0 0 _
  dsimp only [Option.toList, List.cons_append, List.nil_append]
  refine r_if_ne (t := 12) hm rfl rfl (fun c5 => ?_) (fun c5 => ?_)
  · obtain ⟨q, rfl⟩ := Int.eq_ofNat_of_zero_le (show 0 ≤ i by omega)
    have hkq := hok.2.1 q (by omega)
    unfold okIt at hkq
    refine r_aload_n hm rfl (k := ?_)
    refine r_getR (hm := hm) (hf := rfl) (hd := rfl) (hs := (by first | assumption | exact (g1.1 _).trans rfl)) (hv := (by first | exact putI_eq | exact (putI_ne (by omega)).trans (by first | first | assumption | exact g1.2 _ _ _ rfl | exact M0 _ (by omega) | exact M1 _ (by omega) | exact M2 _ (by omega) | exact M3 _ (by omega) | exact M4 _ (by omega) | exact Q0 _ _ (by omega) (by omega) | exact Q1 _ _ (by omega) (by omega) | exact Q2 _ _ (by omega) (by omega)) | first | assumption | exact g1.2 _ _ _ rfl | exact M0 _ (by omega) | exact M1 _ (by omega) | exact M2 _ (by omega) | exact M3 _ (by omega) | exact M4 _ (by omega) | exact Q0 _ _ (by omega) (by omega) | exact Q1 _ _ (by omega) (by omega) | exact Q2 _ _ (by omega) (by omega))) (k := ?_)
    refine r_sipush hm rfl (k := ?_)
    refine r_iload_n hm rfl (k := ?_)
    refine r_iadd hm rfl (hr := (by omega)) (k := ?_)
    refine r_iald (hm := hm) (hf := rfl) (hs := (by first | assumption | exact (g1.1 _).trans rfl)) (kk := 60 * 3 + q) (hi := by omega) (hn := (by omega)) (hv := (by first | exact putI_eq | exact (putI_ne (by omega)).trans (by first | first | assumption | exact g1.2 _ _ _ rfl | exact M0 _ (by omega) | exact M1 _ (by omega) | exact M2 _ (by omega) | exact M3 _ (by omega) | exact M4 _ (by omega) | exact Q0 _ _ (by omega) (by omega) | exact Q1 _ _ (by omega) (by omega) | exact Q2 _ _ (by omega) (by omega)) | first | assumption | exact g1.2 _ _ _ rfl | exact M0 _ (by omega) | exact M1 _ (by omega) | exact M2 _ (by omega) | exact M3 _ (by omega) | exact M4 _ (by omega) | exact Q0 _ _ (by omega) (by omega) | exact Q1 _ _ (by omega) (by omega) | exact Q2 _ _ (by omega) (by omega))) (k := ?_)
    refine r_iconst hm rfl (k := ?_)
    refine r_icmp_ne (t := 39) hm rfl rfl (fun c23 => ?_) (fun c23 => ?_)
    · refine r_sipush hm rfl (k := ?_)
      refine r_ireturn hm rfl rfl (by rfl) (Nat.le_of_ble_eq_true rfl) (Nat.le_of_ble_eq_true rfl) ?_
      unfold oDrop aDrop
      simp only [Int.toNat_natCast]
      rw [if_neg (by omega), if_neg (by omega), if_pos (by omega)]
      exact ⟨I, Sm.refl, rfl⟩
    · refine r_aload_n hm rfl (k := ?_)
      refine r_getR (hm := hm) (hf := rfl) (hd := rfl) (hs := (by first | assumption | exact (g1.1 _).trans rfl)) (hv := (by first | exact putI_eq | exact (putI_ne (by omega)).trans (by first | first | assumption | exact g1.2 _ _ _ rfl | exact M0 _ (by omega) | exact M1 _ (by omega) | exact M2 _ (by omega) | exact M3 _ (by omega) | exact M4 _ (by omega) | exact Q0 _ _ (by omega) (by omega) | exact Q1 _ _ (by omega) (by omega) | exact Q2 _ _ (by omega) (by omega)) | first | assumption | exact g1.2 _ _ _ rfl | exact M0 _ (by omega) | exact M1 _ (by omega) | exact M2 _ (by omega) | exact M3 _ (by omega) | exact M4 _ (by omega) | exact Q0 _ _ (by omega) (by omega) | exact Q1 _ _ (by omega) (by omega) | exact Q2 _ _ (by omega) (by omega))) (k := ?_)
      refine r_sipush hm rfl (k := ?_)
      refine r_iload_n hm rfl (k := ?_)
      refine r_iadd hm rfl (hr := (by omega)) (k := ?_)
      refine r_iald (hm := hm) (hf := rfl) (hs := (by first | assumption | exact (g1.1 _).trans rfl)) (kk := 60 * 3 + q) (hi := by omega) (hn := (by omega)) (hv := (by first | exact putI_eq | exact (putI_ne (by omega)).trans (by first | first | assumption | exact g1.2 _ _ _ rfl | exact M0 _ (by omega) | exact M1 _ (by omega) | exact M2 _ (by omega) | exact M3 _ (by omega) | exact M4 _ (by omega) | exact Q0 _ _ (by omega) (by omega) | exact Q1 _ _ (by omega) (by omega) | exact Q2 _ _ (by omega) (by omega)) | first | assumption | exact g1.2 _ _ _ rfl | exact M0 _ (by omega) | exact M1 _ (by omega) | exact M2 _ (by omega) | exact M3 _ (by omega) | exact M4 _ (by omega) | exact Q0 _ _ (by omega) (by omega) | exact Q1 _ _ (by omega) (by omega) | exact Q2 _ _ (by omega) (by omega))) (k := ?_)
      refine r_if_ne (t := 43) hm rfl rfl (fun c36 => ?_) (fun c36 => ?_)
      · refine r_aload_n hm rfl (k := ?_)
        refine r_getR (hm := hm) (hf := rfl) (hd := rfl) (hs := (by first | assumption | exact (g1.1 _).trans rfl)) (hv := (by first | exact putI_eq | exact (putI_ne (by omega)).trans (by first | first | assumption | exact g1.2 _ _ _ rfl | exact M0 _ (by omega) | exact M1 _ (by omega) | exact M2 _ (by omega) | exact M3 _ (by omega) | exact M4 _ (by omega) | exact Q0 _ _ (by omega) (by omega) | exact Q1 _ _ (by omega) (by omega) | exact Q2 _ _ (by omega) (by omega)) | first | assumption | exact g1.2 _ _ _ rfl | exact M0 _ (by omega) | exact M1 _ (by omega) | exact M2 _ (by omega) | exact M3 _ (by omega) | exact M4 _ (by omega) | exact Q0 _ _ (by omega) (by omega) | exact Q1 _ _ (by omega) (by omega) | exact Q2 _ _ (by omega) (by omega))) (k := ?_)
        refine r_sipush hm rfl (k := ?_)
        refine r_iload_n hm rfl (k := ?_)
        refine r_iadd hm rfl (hr := (by omega)) (k := ?_)
        refine r_dup2 hm rfl (k := ?_)
        refine r_iald (hm := hm) (hf := rfl) (hs := (by first | assumption | exact (g1.1 _).trans rfl)) (kk := 60 * 3 + q) (hi := by omega) (hn := (by omega)) (hv := (by first | exact putI_eq | exact (putI_ne (by omega)).trans (by first | first | assumption | exact g1.2 _ _ _ rfl | exact M0 _ (by omega) | exact M1 _ (by omega) | exact M2 _ (by omega) | exact M3 _ (by omega) | exact M4 _ (by omega) | exact Q0 _ _ (by omega) (by omega) | exact Q1 _ _ (by omega) (by omega) | exact Q2 _ _ (by omega) (by omega)) | first | assumption | exact g1.2 _ _ _ rfl | exact M0 _ (by omega) | exact M1 _ (by omega) | exact M2 _ (by omega) | exact M3 _ (by omega) | exact M4 _ (by omega) | exact Q0 _ _ (by omega) (by omega) | exact Q1 _ _ (by omega) (by omega) | exact Q2 _ _ (by omega) (by omega))) (k := ?_)
        refine r_iconst hm rfl (k := ?_)
        refine r_isub hm rfl (hr := (by omega)) (k := ?_)
        refine r_iast (hm := hm) (hf := rfl) (h28 := (by omega)) (hs := (by first | assumption | exact (g1.1 _).trans rfl)) (kk := 180 + q) (hi := by omega) (hn := (by omega)) (k := ?_)
        refine r_aload_n hm rfl (k := ?_)
        refine r_getR (hm := hm) (hf := rfl) (hd := rfl) (hs := (by first | assumption | exact (g1.1 _).trans rfl)) (hv := (by first | exact putI_eq | exact (putI_ne (by omega)).trans (by first | first | assumption | exact g1.2 _ _ _ rfl | exact M0 _ (by omega) | exact M1 _ (by omega) | exact M2 _ (by omega) | exact M3 _ (by omega) | exact M4 _ (by omega) | exact Q0 _ _ (by omega) (by omega) | exact Q1 _ _ (by omega) (by omega) | exact Q2 _ _ (by omega) (by omega)) | first | assumption | exact g1.2 _ _ _ rfl | exact M0 _ (by omega) | exact M1 _ (by omega) | exact M2 _ (by omega) | exact M3 _ (by omega) | exact M4 _ (by omega) | exact Q0 _ _ (by omega) (by omega) | exact Q1 _ _ (by omega) (by omega) | exact Q2 _ _ (by omega) (by omega))) (k := ?_)
        refine r_sipush hm rfl (k := ?_)
        refine r_iload_n hm rfl (k := ?_)
        refine r_iadd hm rfl (hr := (by omega)) (k := ?_)
        refine r_iald (hm := hm) (hf := rfl) (hs := (by first | assumption | exact (g1.1 _).trans rfl)) (kk := 180 + q) (hi := by omega) (hn := (by omega)) (hv := (by first | exact putI_eq | exact (putI_ne (by omega)).trans (by first | first | assumption | exact g1.2 _ _ _ rfl | exact M0 _ (by omega) | exact M1 _ (by omega) | exact M2 _ (by omega) | exact M3 _ (by omega) | exact M4 _ (by omega) | exact Q0 _ _ (by omega) (by omega) | exact Q1 _ _ (by omega) (by omega) | exact Q2 _ _ (by omega) (by omega)) | first | assumption | exact g1.2 _ _ _ rfl | exact M0 _ (by omega) | exact M1 _ (by omega) | exact M2 _ (by omega) | exact M3 _ (by omega) | exact M4 _ (by omega) | exact Q0 _ _ (by omega) (by omega) | exact Q1 _ _ (by omega) (by omega) | exact Q2 _ _ (by omega) (by omega))) (k := ?_)
        refine r_ireturn hm rfl rfl (by rfl) (Nat.le_of_ble_eq_true rfl) (Nat.le_of_ble_eq_true rfl) ?_
        have SX : Sm (fun a k => (1088 ≤ a ∧ a ≤ 1092 ∧ 180 ≤ k) ∨ (1093 ≤ a ∧ a ≤ 1095 ∧ 3600 ≤ k)) h (putI h 1092 (180 + q) (S.1.2.1 4 q - 1)) := Sm.put Sm.refl (by omega)
        unfold oDrop aDrop
        simp only [Int.toNat_natCast]
        rw [if_pos (by omega), if_neg (by omega), if_neg (by omega)]
        exact ⟨I.mut ok SX (fun a k z => by omega) (RepM_fd hR (f := 4) (by omega) (by omega) (fun z => by omega)) ((SX.2.2 _ _ (by omega)).trans hG), SX.mono (fun a k z => by omega), rfl⟩
      · refine r_sipush hm rfl (k := ?_)
        refine r_ireturn hm rfl rfl (by rfl) (Nat.le_of_ble_eq_true rfl) (Nat.le_of_ble_eq_true rfl) ?_
        unfold oDrop aDrop
        simp only [Int.toNat_natCast]
        rw [if_neg (by omega), if_neg (by omega), if_pos (by omega)]
        exact ⟨I, Sm.refl, rfl⟩
  · refine r_sipush hm rfl (k := ?_)
    refine r_ireturn hm rfl rfl (by rfl) (Nat.le_of_ble_eq_true rfl) (Nat.le_of_ble_eq_true rfl) ?_
    unfold oDrop aDrop
    rw [if_neg (by omega), if_pos (by omega)]
    exact ⟨I, Sm.refl, rfl⟩
set_option maxHeartbeats 4000000 in
set_option maxRecDepth 8000 in
theorem m_piece {L : Nat} {h : Hp} {S : St} (I : InvM L h S) (ok : okS S) {i kd a b : Int} (hi0 : inI i) (hk0 : inI kd) (ha0 : inI a) (hb0 : inI b) : RN 170 0 [some (.inr (.inr (some 1085))), some (.inl i), some (.inl kd), some (.inl a), some (.inl b), none, none, none] [] h 0 0 (fun v h2 => InvM L h2 (oPiece S i kd a b) ∧ FxM h h2 ∧ v = some (.inl (aPiece S i kd a b))) := by
  have hm : mrec 170 = some nM170 := rfl
  obtain ⟨g, hR, hV, hK, hG, hL, hB, hFl⟩ := id I
  have hok := ok.1
  obtain ⟨M0, M1, M2, M3, M4, Q0, Q1, Q2, S0, N0, N1⟩ := hR.use
  have n60 := hok.1
  have g1 := g
  have hR1 := hR
  have hH : 8 ≤ S.1.2.2.2 0 ∧ S.1.2.2.2 0 ≤ 60 := by have := hok.2.2.2.2; unfold okStl at this; omega
  refine r_aload_n hm rfl (k := ?_)
  refine r_iload_n hm rfl (k := ?_)
  refine r_callv (j2 := 165) hm rfl rfl rfl rfl rfl rfl (by first | assumption | exact (g1.1 _).trans rfl) (Nat.le_of_ble_eq_true rfl) (Nat.le_of_ble_eq_true rfl) rfl ⟨Nat.le_of_ble_eq_true rfl, Nat.le_of_ble_eq_true rfl, Nat.le_of_ble_eq_true rfl, Nat.le_of_ble_eq_true rfl, Nat.le_of_ble_eq_true rfl⟩ rfl (m_isItem g hR hi0) (fun v9 h9 p9 => ?_)
  obtain ⟨e1, e2⟩ := p9
  subst e2
  replace e1 := e1.symm
  subst e1
  obtain ⟨b9, eb9, hb9⟩ := ite01 (p := 0 ≤ i ∧ i < (S.1.1 : Int))
  rw [eb9]
  change RN 170 5 _ _ _ 0 0 _
  dsimp only [Option.toList, List.cons_append, List.nil_append]
  refine r_if_ne (t := 12) hm rfl rfl (fun c5 => ?_) (fun c5 => ?_)
  · obtain ⟨q, rfl⟩ := Int.eq_ofNat_of_zero_le (show 0 ≤ i by omega)
    have hkq := hok.2.1 q (by omega)
    unfold okIt at hkq
    have MG : ∀ b5 : Int, ((((kd = 0 ∧ 1 ≤ a ∧ a ≤ 20) ∨ (kd = 1 ∧ 0 ≤ a ∧ a ≤ 99 ∧ 0 ≤ b ∧ b ≤ 2) ∨ (kd = 2 ∧ 1 ≤ a ∧ a ≤ 5)) ∧ b5 = 1) ∨ (¬ ((kd = 0 ∧ 1 ≤ a ∧ a ≤ 20) ∨ (kd = 1 ∧ 0 ≤ a ∧ a ≤ 99 ∧ 0 ≤ b ∧ b ≤ 2) ∨ (kd = 2 ∧ 1 ≤ a ∧ a ≤ 5)) ∧ b5 = 0)) → RN 170 90 [some (.inr (.inr (some 1085))), some (.inl (q : Int)), some (.inl kd), some (.inl a), some (.inl b), some (.inl b5), none, none] [] h 0 0 (fun v h2 => InvM L h2 (oPiece S (q : Int) kd a b) ∧ FxM h h2 ∧ v = some (.inl (aPiece S (q : Int) kd a b))) := by
      intro b5 hb5
      obtain ⟨n, en⟩ := Int.eq_ofNat_of_zero_le (show 0 ≤ S.1.2.1 4 q by omega)
      refine r_iload hm rfl (k := ?_)
      refine r_if_ne (t := 99) hm rfl rfl (fun c92 => ?_) (fun c92 => ?_)
      · have hcp : gdPc kd a b := by unfold gdPc; omega
        clear hb5
        refine r_aload_n hm rfl (k := ?_)
        refine r_getR (hm := hm) (hf := rfl) (hd := rfl) (hs := (by first | assumption | exact (g1.1 _).trans rfl)) (hv := (by first | exact putI_eq | exact (putI_ne (by omega)).trans (by first | exact putI_eq | exact (putI_ne (by omega)).trans (by first | exact putI_eq | exact (putI_ne (by omega)).trans (by first | exact putI_eq | exact (putI_ne (by omega)).trans (by first | exact putI_eq | exact (putI_ne (by omega)).trans (by first | first | assumption | exact g1.2 _ _ _ rfl | exact M0 _ (by omega) | exact M1 _ (by omega) | exact M2 _ (by omega) | exact M3 _ (by omega) | exact M4 _ (by omega) | exact Q0 _ _ (by omega) (by omega) | exact Q1 _ _ (by omega) (by omega) | exact Q2 _ _ (by omega) (by omega) | exact e92) | first | assumption | exact g1.2 _ _ _ rfl | exact M0 _ (by omega) | exact M1 _ (by omega) | exact M2 _ (by omega) | exact M3 _ (by omega) | exact M4 _ (by omega) | exact Q0 _ _ (by omega) (by omega) | exact Q1 _ _ (by omega) (by omega) | exact Q2 _ _ (by omega) (by omega) | exact e92) | first | assumption | exact g1.2 _ _ _ rfl | exact M0 _ (by omega) | exact M1 _ (by omega) | exact M2 _ (by omega) | exact M3 _ (by omega) | exact M4 _ (by omega) | exact Q0 _ _ (by omega) (by omega) | exact Q1 _ _ (by omega) (by omega) | exact Q2 _ _ (by omega) (by omega) | exact e92) | first | assumption | exact g1.2 _ _ _ rfl | exact M0 _ (by omega) | exact M1 _ (by omega) | exact M2 _ (by omega) | exact M3 _ (by omega) | exact M4 _ (by omega) | exact Q0 _ _ (by omega) (by omega) | exact Q1 _ _ (by omega) (by omega) | exact Q2 _ _ (by omega) (by omega) | exact e92) | first | assumption | exact g1.2 _ _ _ rfl | exact M0 _ (by omega) | exact M1 _ (by omega) | exact M2 _ (by omega) | exact M3 _ (by omega) | exact M4 _ (by omega) | exact Q0 _ _ (by omega) (by omega) | exact Q1 _ _ (by omega) (by omega) | exact Q2 _ _ (by omega) (by omega) | exact e92) | first | assumption | exact g1.2 _ _ _ rfl | exact M0 _ (by omega) | exact M1 _ (by omega) | exact M2 _ (by omega) | exact M3 _ (by omega) | exact M4 _ (by omega) | exact Q0 _ _ (by omega) (by omega) | exact Q1 _ _ (by omega) (by omega) | exact Q2 _ _ (by omega) (by omega) | exact e92)) (k := ?_)
        refine r_sipush hm rfl (k := ?_)
        refine r_iload_n hm rfl (k := ?_)
        refine r_iadd hm rfl (hr := (by omega)) (k := ?_)
        refine r_iald (hm := hm) (hf := rfl) (hs := (by first | assumption | exact (g1.1 _).trans rfl)) (kk := 60 * 3 + q) (hi := by omega) (hn := (by omega)) (hv := (by first | exact putI_eq | exact (putI_ne (by omega)).trans (by first | exact putI_eq | exact (putI_ne (by omega)).trans (by first | exact putI_eq | exact (putI_ne (by omega)).trans (by first | exact putI_eq | exact (putI_ne (by omega)).trans (by first | exact putI_eq | exact (putI_ne (by omega)).trans (by first | first | assumption | exact g1.2 _ _ _ rfl | exact M0 _ (by omega) | exact M1 _ (by omega) | exact M2 _ (by omega) | exact M3 _ (by omega) | exact M4 _ (by omega) | exact Q0 _ _ (by omega) (by omega) | exact Q1 _ _ (by omega) (by omega) | exact Q2 _ _ (by omega) (by omega) | exact e92) | first | assumption | exact g1.2 _ _ _ rfl | exact M0 _ (by omega) | exact M1 _ (by omega) | exact M2 _ (by omega) | exact M3 _ (by omega) | exact M4 _ (by omega) | exact Q0 _ _ (by omega) (by omega) | exact Q1 _ _ (by omega) (by omega) | exact Q2 _ _ (by omega) (by omega) | exact e92) | first | assumption | exact g1.2 _ _ _ rfl | exact M0 _ (by omega) | exact M1 _ (by omega) | exact M2 _ (by omega) | exact M3 _ (by omega) | exact M4 _ (by omega) | exact Q0 _ _ (by omega) (by omega) | exact Q1 _ _ (by omega) (by omega) | exact Q2 _ _ (by omega) (by omega) | exact e92) | first | assumption | exact g1.2 _ _ _ rfl | exact M0 _ (by omega) | exact M1 _ (by omega) | exact M2 _ (by omega) | exact M3 _ (by omega) | exact M4 _ (by omega) | exact Q0 _ _ (by omega) (by omega) | exact Q1 _ _ (by omega) (by omega) | exact Q2 _ _ (by omega) (by omega) | exact e92) | first | assumption | exact g1.2 _ _ _ rfl | exact M0 _ (by omega) | exact M1 _ (by omega) | exact M2 _ (by omega) | exact M3 _ (by omega) | exact M4 _ (by omega) | exact Q0 _ _ (by omega) (by omega) | exact Q1 _ _ (by omega) (by omega) | exact Q2 _ _ (by omega) (by omega) | exact e92) | first | assumption | exact g1.2 _ _ _ rfl | exact M0 _ (by omega) | exact M1 _ (by omega) | exact M2 _ (by omega) | exact M3 _ (by omega) | exact M4 _ (by omega) | exact Q0 _ _ (by omega) (by omega) | exact Q1 _ _ (by omega) (by omega) | exact Q2 _ _ (by omega) (by omega) | exact e92)) (k := ?_)
        refine r_iconst hm rfl (k := ?_)
        refine r_icmp_eq (t := 117) hm rfl rfl (fun c110 => ?_) (fun c110 => ?_)
        · refine r_aload_n hm rfl (k := ?_)
          refine r_getR (hm := hm) (hf := rfl) (hd := rfl) (hs := (by first | assumption | exact (g1.1 _).trans rfl)) (hv := (by first | exact putI_eq | exact (putI_ne (by omega)).trans (by first | exact putI_eq | exact (putI_ne (by omega)).trans (by first | exact putI_eq | exact (putI_ne (by omega)).trans (by first | exact putI_eq | exact (putI_ne (by omega)).trans (by first | exact putI_eq | exact (putI_ne (by omega)).trans (by first | first | assumption | exact g1.2 _ _ _ rfl | exact M0 _ (by omega) | exact M1 _ (by omega) | exact M2 _ (by omega) | exact M3 _ (by omega) | exact M4 _ (by omega) | exact Q0 _ _ (by omega) (by omega) | exact Q1 _ _ (by omega) (by omega) | exact Q2 _ _ (by omega) (by omega) | exact e92) | first | assumption | exact g1.2 _ _ _ rfl | exact M0 _ (by omega) | exact M1 _ (by omega) | exact M2 _ (by omega) | exact M3 _ (by omega) | exact M4 _ (by omega) | exact Q0 _ _ (by omega) (by omega) | exact Q1 _ _ (by omega) (by omega) | exact Q2 _ _ (by omega) (by omega) | exact e92) | first | assumption | exact g1.2 _ _ _ rfl | exact M0 _ (by omega) | exact M1 _ (by omega) | exact M2 _ (by omega) | exact M3 _ (by omega) | exact M4 _ (by omega) | exact Q0 _ _ (by omega) (by omega) | exact Q1 _ _ (by omega) (by omega) | exact Q2 _ _ (by omega) (by omega) | exact e92) | first | assumption | exact g1.2 _ _ _ rfl | exact M0 _ (by omega) | exact M1 _ (by omega) | exact M2 _ (by omega) | exact M3 _ (by omega) | exact M4 _ (by omega) | exact Q0 _ _ (by omega) (by omega) | exact Q1 _ _ (by omega) (by omega) | exact Q2 _ _ (by omega) (by omega) | exact e92) | first | assumption | exact g1.2 _ _ _ rfl | exact M0 _ (by omega) | exact M1 _ (by omega) | exact M2 _ (by omega) | exact M3 _ (by omega) | exact M4 _ (by omega) | exact Q0 _ _ (by omega) (by omega) | exact Q1 _ _ (by omega) (by omega) | exact Q2 _ _ (by omega) (by omega) | exact e92) | first | assumption | exact g1.2 _ _ _ rfl | exact M0 _ (by omega) | exact M1 _ (by omega) | exact M2 _ (by omega) | exact M3 _ (by omega) | exact M4 _ (by omega) | exact Q0 _ _ (by omega) (by omega) | exact Q1 _ _ (by omega) (by omega) | exact Q2 _ _ (by omega) (by omega) | exact e92)) (k := ?_)
          refine r_sipush hm rfl (k := ?_)
          refine r_iload_n hm rfl (k := ?_)
          refine r_iadd hm rfl (hr := (by omega)) (k := ?_)
          refine r_iald (hm := hm) (hf := rfl) (hs := (by first | assumption | exact (g1.1 _).trans rfl)) (kk := 60 * 3 + q) (hi := by omega) (hn := (by omega)) (hv := ((M4 q (by omega)).trans en)) (k := ?_)
          refine r_istore hm rfl (k := ?_)
          refine r_iload hm rfl (k := ?_)
          refine r_bipush hm rfl (k := ?_)
          refine r_icmp_ne (t := 140) hm rfl rfl (fun c133 => ?_) (fun c133 => ?_)
          · have e92 : h.2.1 1092 (180 + q) = (n : Int) := (M4 q (by omega)).trans en
            refine r_bipush hm rfl (k := ?_)
            refine r_sipush hm rfl (k := ?_)
            refine r_iload_n hm rfl (k := ?_)
            refine r_iadd hm rfl (hr := (by omega)) (k := ?_)
            refine r_imul hm rfl (hr := (by omega)) (k := ?_)
            refine r_iload hm rfl (k := ?_)
            refine r_iadd hm rfl (hr := (by omega)) (k := ?_)
            refine r_istore hm rfl (k := ?_)
            refine r_aload_n hm rfl (k := ?_)
            refine r_getR (hm := hm) (hf := rfl) (hd := rfl) (hs := (by first | assumption | exact (g1.1 _).trans rfl)) (hv := (by first | exact putI_eq | exact (putI_ne (by omega)).trans (by first | exact putI_eq | exact (putI_ne (by omega)).trans (by first | exact putI_eq | exact (putI_ne (by omega)).trans (by first | exact putI_eq | exact (putI_ne (by omega)).trans (by first | exact putI_eq | exact (putI_ne (by omega)).trans (by first | first | assumption | exact g1.2 _ _ _ rfl | exact M0 _ (by omega) | exact M1 _ (by omega) | exact M2 _ (by omega) | exact M3 _ (by omega) | exact M4 _ (by omega) | exact Q0 _ _ (by omega) (by omega) | exact Q1 _ _ (by omega) (by omega) | exact Q2 _ _ (by omega) (by omega) | exact e92) | first | assumption | exact g1.2 _ _ _ rfl | exact M0 _ (by omega) | exact M1 _ (by omega) | exact M2 _ (by omega) | exact M3 _ (by omega) | exact M4 _ (by omega) | exact Q0 _ _ (by omega) (by omega) | exact Q1 _ _ (by omega) (by omega) | exact Q2 _ _ (by omega) (by omega) | exact e92) | first | assumption | exact g1.2 _ _ _ rfl | exact M0 _ (by omega) | exact M1 _ (by omega) | exact M2 _ (by omega) | exact M3 _ (by omega) | exact M4 _ (by omega) | exact Q0 _ _ (by omega) (by omega) | exact Q1 _ _ (by omega) (by omega) | exact Q2 _ _ (by omega) (by omega) | exact e92) | first | assumption | exact g1.2 _ _ _ rfl | exact M0 _ (by omega) | exact M1 _ (by omega) | exact M2 _ (by omega) | exact M3 _ (by omega) | exact M4 _ (by omega) | exact Q0 _ _ (by omega) (by omega) | exact Q1 _ _ (by omega) (by omega) | exact Q2 _ _ (by omega) (by omega) | exact e92) | first | assumption | exact g1.2 _ _ _ rfl | exact M0 _ (by omega) | exact M1 _ (by omega) | exact M2 _ (by omega) | exact M3 _ (by omega) | exact M4 _ (by omega) | exact Q0 _ _ (by omega) (by omega) | exact Q1 _ _ (by omega) (by omega) | exact Q2 _ _ (by omega) (by omega) | exact e92) | first | assumption | exact g1.2 _ _ _ rfl | exact M0 _ (by omega) | exact M1 _ (by omega) | exact M2 _ (by omega) | exact M3 _ (by omega) | exact M4 _ (by omega) | exact Q0 _ _ (by omega) (by omega) | exact Q1 _ _ (by omega) (by omega) | exact Q2 _ _ (by omega) (by omega) | exact e92)) (k := ?_)
            refine r_iload hm rfl (k := ?_)
            refine r_iload_n hm rfl (k := ?_)
            refine r_iast (hm := hm) (hf := rfl) (h28 := (by omega)) (hs := (by first | assumption | exact (g1.1 _).trans rfl)) (kk := 20 * (180 + q) + n) (hi := by omega) (hn := (by omega)) (k := ?_)
            refine r_aload_n hm rfl (k := ?_)
            refine r_getR (hm := hm) (hf := rfl) (hd := rfl) (hs := (by first | assumption | exact (g1.1 _).trans rfl)) (hv := (by first | exact putI_eq | exact (putI_ne (by omega)).trans (by first | exact putI_eq | exact (putI_ne (by omega)).trans (by first | exact putI_eq | exact (putI_ne (by omega)).trans (by first | exact putI_eq | exact (putI_ne (by omega)).trans (by first | exact putI_eq | exact (putI_ne (by omega)).trans (by first | first | assumption | exact g1.2 _ _ _ rfl | exact M0 _ (by omega) | exact M1 _ (by omega) | exact M2 _ (by omega) | exact M3 _ (by omega) | exact M4 _ (by omega) | exact Q0 _ _ (by omega) (by omega) | exact Q1 _ _ (by omega) (by omega) | exact Q2 _ _ (by omega) (by omega) | exact e92) | first | assumption | exact g1.2 _ _ _ rfl | exact M0 _ (by omega) | exact M1 _ (by omega) | exact M2 _ (by omega) | exact M3 _ (by omega) | exact M4 _ (by omega) | exact Q0 _ _ (by omega) (by omega) | exact Q1 _ _ (by omega) (by omega) | exact Q2 _ _ (by omega) (by omega) | exact e92) | first | assumption | exact g1.2 _ _ _ rfl | exact M0 _ (by omega) | exact M1 _ (by omega) | exact M2 _ (by omega) | exact M3 _ (by omega) | exact M4 _ (by omega) | exact Q0 _ _ (by omega) (by omega) | exact Q1 _ _ (by omega) (by omega) | exact Q2 _ _ (by omega) (by omega) | exact e92) | first | assumption | exact g1.2 _ _ _ rfl | exact M0 _ (by omega) | exact M1 _ (by omega) | exact M2 _ (by omega) | exact M3 _ (by omega) | exact M4 _ (by omega) | exact Q0 _ _ (by omega) (by omega) | exact Q1 _ _ (by omega) (by omega) | exact Q2 _ _ (by omega) (by omega) | exact e92) | first | assumption | exact g1.2 _ _ _ rfl | exact M0 _ (by omega) | exact M1 _ (by omega) | exact M2 _ (by omega) | exact M3 _ (by omega) | exact M4 _ (by omega) | exact Q0 _ _ (by omega) (by omega) | exact Q1 _ _ (by omega) (by omega) | exact Q2 _ _ (by omega) (by omega) | exact e92) | first | assumption | exact g1.2 _ _ _ rfl | exact M0 _ (by omega) | exact M1 _ (by omega) | exact M2 _ (by omega) | exact M3 _ (by omega) | exact M4 _ (by omega) | exact Q0 _ _ (by omega) (by omega) | exact Q1 _ _ (by omega) (by omega) | exact Q2 _ _ (by omega) (by omega) | exact e92)) (k := ?_)
            refine r_iload hm rfl (k := ?_)
            refine r_iload_n hm rfl (k := ?_)
            refine r_iast (hm := hm) (hf := rfl) (h28 := (by omega)) (hs := (by first | assumption | exact (g1.1 _).trans rfl)) (kk := 20 * (180 + q) + n) (hi := by omega) (hn := (by omega)) (k := ?_)
            refine r_aload_n hm rfl (k := ?_)
            refine r_getR (hm := hm) (hf := rfl) (hd := rfl) (hs := (by first | assumption | exact (g1.1 _).trans rfl)) (hv := (by first | exact putI_eq | exact (putI_ne (by omega)).trans (by first | exact putI_eq | exact (putI_ne (by omega)).trans (by first | exact putI_eq | exact (putI_ne (by omega)).trans (by first | exact putI_eq | exact (putI_ne (by omega)).trans (by first | exact putI_eq | exact (putI_ne (by omega)).trans (by first | first | assumption | exact g1.2 _ _ _ rfl | exact M0 _ (by omega) | exact M1 _ (by omega) | exact M2 _ (by omega) | exact M3 _ (by omega) | exact M4 _ (by omega) | exact Q0 _ _ (by omega) (by omega) | exact Q1 _ _ (by omega) (by omega) | exact Q2 _ _ (by omega) (by omega) | exact e92) | first | assumption | exact g1.2 _ _ _ rfl | exact M0 _ (by omega) | exact M1 _ (by omega) | exact M2 _ (by omega) | exact M3 _ (by omega) | exact M4 _ (by omega) | exact Q0 _ _ (by omega) (by omega) | exact Q1 _ _ (by omega) (by omega) | exact Q2 _ _ (by omega) (by omega) | exact e92) | first | assumption | exact g1.2 _ _ _ rfl | exact M0 _ (by omega) | exact M1 _ (by omega) | exact M2 _ (by omega) | exact M3 _ (by omega) | exact M4 _ (by omega) | exact Q0 _ _ (by omega) (by omega) | exact Q1 _ _ (by omega) (by omega) | exact Q2 _ _ (by omega) (by omega) | exact e92) | first | assumption | exact g1.2 _ _ _ rfl | exact M0 _ (by omega) | exact M1 _ (by omega) | exact M2 _ (by omega) | exact M3 _ (by omega) | exact M4 _ (by omega) | exact Q0 _ _ (by omega) (by omega) | exact Q1 _ _ (by omega) (by omega) | exact Q2 _ _ (by omega) (by omega) | exact e92) | first | assumption | exact g1.2 _ _ _ rfl | exact M0 _ (by omega) | exact M1 _ (by omega) | exact M2 _ (by omega) | exact M3 _ (by omega) | exact M4 _ (by omega) | exact Q0 _ _ (by omega) (by omega) | exact Q1 _ _ (by omega) (by omega) | exact Q2 _ _ (by omega) (by omega) | exact e92) | first | assumption | exact g1.2 _ _ _ rfl | exact M0 _ (by omega) | exact M1 _ (by omega) | exact M2 _ (by omega) | exact M3 _ (by omega) | exact M4 _ (by omega) | exact Q0 _ _ (by omega) (by omega) | exact Q1 _ _ (by omega) (by omega) | exact Q2 _ _ (by omega) (by omega) | exact e92)) (k := ?_)
            refine r_iload hm rfl (k := ?_)
            refine r_iload_n hm rfl (k := ?_)
            refine r_iconst hm rfl (k := ?_)
            refine r_icmp_ne (t := 185) hm rfl rfl (fun c177 => ?_) (fun c177 => ?_)
            · refine r_iconst hm rfl (k := ?_)
              refine r_iast (hm := hm) (hf := rfl) (h28 := (by omega)) (hs := (by first | assumption | exact (g1.1 _).trans rfl)) (kk := 20 * (180 + q) + n) (hi := by omega) (hn := (by omega)) (k := ?_)
              refine r_aload_n hm rfl (k := ?_)
              refine r_getR (hm := hm) (hf := rfl) (hd := rfl) (hs := (by first | assumption | exact (g1.1 _).trans rfl)) (hv := (by first | exact putI_eq | exact (putI_ne (by omega)).trans (by first | exact putI_eq | exact (putI_ne (by omega)).trans (by first | exact putI_eq | exact (putI_ne (by omega)).trans (by first | exact putI_eq | exact (putI_ne (by omega)).trans (by first | exact putI_eq | exact (putI_ne (by omega)).trans (by first | first | assumption | exact g1.2 _ _ _ rfl | exact M0 _ (by omega) | exact M1 _ (by omega) | exact M2 _ (by omega) | exact M3 _ (by omega) | exact M4 _ (by omega) | exact Q0 _ _ (by omega) (by omega) | exact Q1 _ _ (by omega) (by omega) | exact Q2 _ _ (by omega) (by omega) | exact e92) | first | assumption | exact g1.2 _ _ _ rfl | exact M0 _ (by omega) | exact M1 _ (by omega) | exact M2 _ (by omega) | exact M3 _ (by omega) | exact M4 _ (by omega) | exact Q0 _ _ (by omega) (by omega) | exact Q1 _ _ (by omega) (by omega) | exact Q2 _ _ (by omega) (by omega) | exact e92) | first | assumption | exact g1.2 _ _ _ rfl | exact M0 _ (by omega) | exact M1 _ (by omega) | exact M2 _ (by omega) | exact M3 _ (by omega) | exact M4 _ (by omega) | exact Q0 _ _ (by omega) (by omega) | exact Q1 _ _ (by omega) (by omega) | exact Q2 _ _ (by omega) (by omega) | exact e92) | first | assumption | exact g1.2 _ _ _ rfl | exact M0 _ (by omega) | exact M1 _ (by omega) | exact M2 _ (by omega) | exact M3 _ (by omega) | exact M4 _ (by omega) | exact Q0 _ _ (by omega) (by omega) | exact Q1 _ _ (by omega) (by omega) | exact Q2 _ _ (by omega) (by omega) | exact e92) | first | assumption | exact g1.2 _ _ _ rfl | exact M0 _ (by omega) | exact M1 _ (by omega) | exact M2 _ (by omega) | exact M3 _ (by omega) | exact M4 _ (by omega) | exact Q0 _ _ (by omega) (by omega) | exact Q1 _ _ (by omega) (by omega) | exact Q2 _ _ (by omega) (by omega) | exact e92) | first | assumption | exact g1.2 _ _ _ rfl | exact M0 _ (by omega) | exact M1 _ (by omega) | exact M2 _ (by omega) | exact M3 _ (by omega) | exact M4 _ (by omega) | exact Q0 _ _ (by omega) (by omega) | exact Q1 _ _ (by omega) (by omega) | exact Q2 _ _ (by omega) (by omega) | exact e92)) (k := ?_)
              refine r_sipush hm rfl (k := ?_)
              refine r_iload_n hm rfl (k := ?_)
              refine r_iadd hm rfl (hr := (by omega)) (k := ?_)
              refine r_dup2 hm rfl (k := ?_)
              refine r_iald (hm := hm) (hf := rfl) (hs := (by first | assumption | exact (g1.1 _).trans rfl)) (kk := 180 + q) (hi := by omega) (hn := (by omega)) (hv := (by first | exact putI_eq | exact (putI_ne (by omega)).trans (by first | exact putI_eq | exact (putI_ne (by omega)).trans (by first | exact putI_eq | exact (putI_ne (by omega)).trans (by first | exact putI_eq | exact (putI_ne (by omega)).trans (by first | exact putI_eq | exact (putI_ne (by omega)).trans (by first | first | assumption | exact g1.2 _ _ _ rfl | exact M0 _ (by omega) | exact M1 _ (by omega) | exact M2 _ (by omega) | exact M3 _ (by omega) | exact M4 _ (by omega) | exact Q0 _ _ (by omega) (by omega) | exact Q1 _ _ (by omega) (by omega) | exact Q2 _ _ (by omega) (by omega) | exact e92) | first | assumption | exact g1.2 _ _ _ rfl | exact M0 _ (by omega) | exact M1 _ (by omega) | exact M2 _ (by omega) | exact M3 _ (by omega) | exact M4 _ (by omega) | exact Q0 _ _ (by omega) (by omega) | exact Q1 _ _ (by omega) (by omega) | exact Q2 _ _ (by omega) (by omega) | exact e92) | first | assumption | exact g1.2 _ _ _ rfl | exact M0 _ (by omega) | exact M1 _ (by omega) | exact M2 _ (by omega) | exact M3 _ (by omega) | exact M4 _ (by omega) | exact Q0 _ _ (by omega) (by omega) | exact Q1 _ _ (by omega) (by omega) | exact Q2 _ _ (by omega) (by omega) | exact e92) | first | assumption | exact g1.2 _ _ _ rfl | exact M0 _ (by omega) | exact M1 _ (by omega) | exact M2 _ (by omega) | exact M3 _ (by omega) | exact M4 _ (by omega) | exact Q0 _ _ (by omega) (by omega) | exact Q1 _ _ (by omega) (by omega) | exact Q2 _ _ (by omega) (by omega) | exact e92) | first | assumption | exact g1.2 _ _ _ rfl | exact M0 _ (by omega) | exact M1 _ (by omega) | exact M2 _ (by omega) | exact M3 _ (by omega) | exact M4 _ (by omega) | exact Q0 _ _ (by omega) (by omega) | exact Q1 _ _ (by omega) (by omega) | exact Q2 _ _ (by omega) (by omega) | exact e92) | first | assumption | exact g1.2 _ _ _ rfl | exact M0 _ (by omega) | exact M1 _ (by omega) | exact M2 _ (by omega) | exact M3 _ (by omega) | exact M4 _ (by omega) | exact Q0 _ _ (by omega) (by omega) | exact Q1 _ _ (by omega) (by omega) | exact Q2 _ _ (by omega) (by omega) | exact e92)) (k := ?_)
              refine r_iconst hm rfl (k := ?_)
              refine r_iadd hm rfl (hr := (by omega)) (k := ?_)
              refine r_iast (hm := hm) (hf := rfl) (h28 := (by omega)) (hs := (by first | assumption | exact (g1.1 _).trans rfl)) (kk := 180 + q) (hi := by omega) (hn := (by omega)) (k := ?_)
              refine r_iload hm rfl (k := ?_)
              refine r_iconst hm rfl (k := ?_)
              refine r_iadd hm rfl (hr := (by omega)) (k := ?_)
              refine r_ireturn hm rfl rfl (by rfl) (Nat.le_of_ble_eq_true rfl) (Nat.le_of_ble_eq_true rfl) ?_
              unfold gdPc at hcp
              have c60 : S.1.2.1 4 q < 20 := by omega
              have eb : (if kd = 1 then b else 0) = 0 := if_neg (by omega)
              have eO : oPiece S (q : Int) kd a b = wT S (pcT S.1 q kd a 0) := by
                unfold oPiece
                rw [if_pos ⟨by omega, hcp, c110, c60⟩, Int.toNat_natCast, eb]
              have eA : aPiece S (q : Int) kd a b = S.1.2.1 4 q + 1 := by
                unfold aPiece
                rw [if_neg (by omega), if_neg (fun z => z hcp), if_neg (fun z => z c110), if_neg (fun z => z c60), Int.toNat_natCast]
              have SX : Sm (fun a k => (1088 ≤ a ∧ a ≤ 1092 ∧ 180 ≤ k) ∨ (1093 ≤ a ∧ a ≤ 1095 ∧ 3600 ≤ k)) h (putI (putI (putI (putI h 1093 (20 * (180 + q) + n) kd) 1094 (20 * (180 + q) + n) a) 1095 (20 * (180 + q) + n) 0) 1092 (180 + q) ((n : Int) + 1)) := Sm.put (Sm.put (Sm.put (Sm.put Sm.refl (by omega)) (by omega)) (by omega)) (by omega)
              rw [eO, eA]
              exact ⟨I.mut ok SX (fun a k z => by omega) (RepM_pc hR (fun i9 hi9 => by have := hok.2.1 i9 hi9; unfold okIt at this; exact this.2.2.2.2.2.2.2.2.2.1) (by omega) en (by omega)) ((SX.2.2 _ _ (by omega)).trans hG), SX.mono (fun a k z => by omega), by rw [en]⟩
            · refine r_iload hm rfl (k := ?_)
              refine r_goto (t := 186) hm rfl (k := ?_)
              refine r_iast (hm := hm) (hf := rfl) (h28 := (by omega)) (hs := (by first | assumption | exact (g1.1 _).trans rfl)) (kk := 20 * (180 + q) + n) (hi := by omega) (hn := (by omega)) (k := ?_)
              refine r_aload_n hm rfl (k := ?_)
              refine r_getR (hm := hm) (hf := rfl) (hd := rfl) (hs := (by first | assumption | exact (g1.1 _).trans rfl)) (hv := (by first | exact putI_eq | exact (putI_ne (by omega)).trans (by first | exact putI_eq | exact (putI_ne (by omega)).trans (by first | exact putI_eq | exact (putI_ne (by omega)).trans (by first | exact putI_eq | exact (putI_ne (by omega)).trans (by first | exact putI_eq | exact (putI_ne (by omega)).trans (by first | first | assumption | exact g1.2 _ _ _ rfl | exact M0 _ (by omega) | exact M1 _ (by omega) | exact M2 _ (by omega) | exact M3 _ (by omega) | exact M4 _ (by omega) | exact Q0 _ _ (by omega) (by omega) | exact Q1 _ _ (by omega) (by omega) | exact Q2 _ _ (by omega) (by omega) | exact e92) | first | assumption | exact g1.2 _ _ _ rfl | exact M0 _ (by omega) | exact M1 _ (by omega) | exact M2 _ (by omega) | exact M3 _ (by omega) | exact M4 _ (by omega) | exact Q0 _ _ (by omega) (by omega) | exact Q1 _ _ (by omega) (by omega) | exact Q2 _ _ (by omega) (by omega) | exact e92) | first | assumption | exact g1.2 _ _ _ rfl | exact M0 _ (by omega) | exact M1 _ (by omega) | exact M2 _ (by omega) | exact M3 _ (by omega) | exact M4 _ (by omega) | exact Q0 _ _ (by omega) (by omega) | exact Q1 _ _ (by omega) (by omega) | exact Q2 _ _ (by omega) (by omega) | exact e92) | first | assumption | exact g1.2 _ _ _ rfl | exact M0 _ (by omega) | exact M1 _ (by omega) | exact M2 _ (by omega) | exact M3 _ (by omega) | exact M4 _ (by omega) | exact Q0 _ _ (by omega) (by omega) | exact Q1 _ _ (by omega) (by omega) | exact Q2 _ _ (by omega) (by omega) | exact e92) | first | assumption | exact g1.2 _ _ _ rfl | exact M0 _ (by omega) | exact M1 _ (by omega) | exact M2 _ (by omega) | exact M3 _ (by omega) | exact M4 _ (by omega) | exact Q0 _ _ (by omega) (by omega) | exact Q1 _ _ (by omega) (by omega) | exact Q2 _ _ (by omega) (by omega) | exact e92) | first | assumption | exact g1.2 _ _ _ rfl | exact M0 _ (by omega) | exact M1 _ (by omega) | exact M2 _ (by omega) | exact M3 _ (by omega) | exact M4 _ (by omega) | exact Q0 _ _ (by omega) (by omega) | exact Q1 _ _ (by omega) (by omega) | exact Q2 _ _ (by omega) (by omega) | exact e92)) (k := ?_)
              refine r_sipush hm rfl (k := ?_)
              refine r_iload_n hm rfl (k := ?_)
              refine r_iadd hm rfl (hr := (by omega)) (k := ?_)
              refine r_dup2 hm rfl (k := ?_)
              refine r_iald (hm := hm) (hf := rfl) (hs := (by first | assumption | exact (g1.1 _).trans rfl)) (kk := 180 + q) (hi := by omega) (hn := (by omega)) (hv := (by first | exact putI_eq | exact (putI_ne (by omega)).trans (by first | exact putI_eq | exact (putI_ne (by omega)).trans (by first | exact putI_eq | exact (putI_ne (by omega)).trans (by first | exact putI_eq | exact (putI_ne (by omega)).trans (by first | exact putI_eq | exact (putI_ne (by omega)).trans (by first | first | assumption | exact g1.2 _ _ _ rfl | exact M0 _ (by omega) | exact M1 _ (by omega) | exact M2 _ (by omega) | exact M3 _ (by omega) | exact M4 _ (by omega) | exact Q0 _ _ (by omega) (by omega) | exact Q1 _ _ (by omega) (by omega) | exact Q2 _ _ (by omega) (by omega) | exact e92) | first | assumption | exact g1.2 _ _ _ rfl | exact M0 _ (by omega) | exact M1 _ (by omega) | exact M2 _ (by omega) | exact M3 _ (by omega) | exact M4 _ (by omega) | exact Q0 _ _ (by omega) (by omega) | exact Q1 _ _ (by omega) (by omega) | exact Q2 _ _ (by omega) (by omega) | exact e92) | first | assumption | exact g1.2 _ _ _ rfl | exact M0 _ (by omega) | exact M1 _ (by omega) | exact M2 _ (by omega) | exact M3 _ (by omega) | exact M4 _ (by omega) | exact Q0 _ _ (by omega) (by omega) | exact Q1 _ _ (by omega) (by omega) | exact Q2 _ _ (by omega) (by omega) | exact e92) | first | assumption | exact g1.2 _ _ _ rfl | exact M0 _ (by omega) | exact M1 _ (by omega) | exact M2 _ (by omega) | exact M3 _ (by omega) | exact M4 _ (by omega) | exact Q0 _ _ (by omega) (by omega) | exact Q1 _ _ (by omega) (by omega) | exact Q2 _ _ (by omega) (by omega) | exact e92) | first | assumption | exact g1.2 _ _ _ rfl | exact M0 _ (by omega) | exact M1 _ (by omega) | exact M2 _ (by omega) | exact M3 _ (by omega) | exact M4 _ (by omega) | exact Q0 _ _ (by omega) (by omega) | exact Q1 _ _ (by omega) (by omega) | exact Q2 _ _ (by omega) (by omega) | exact e92) | first | assumption | exact g1.2 _ _ _ rfl | exact M0 _ (by omega) | exact M1 _ (by omega) | exact M2 _ (by omega) | exact M3 _ (by omega) | exact M4 _ (by omega) | exact Q0 _ _ (by omega) (by omega) | exact Q1 _ _ (by omega) (by omega) | exact Q2 _ _ (by omega) (by omega) | exact e92)) (k := ?_)
              refine r_iconst hm rfl (k := ?_)
              refine r_iadd hm rfl (hr := (by omega)) (k := ?_)
              refine r_iast (hm := hm) (hf := rfl) (h28 := (by omega)) (hs := (by first | assumption | exact (g1.1 _).trans rfl)) (kk := 180 + q) (hi := by omega) (hn := (by omega)) (k := ?_)
              refine r_iload hm rfl (k := ?_)
              refine r_iconst hm rfl (k := ?_)
              refine r_iadd hm rfl (hr := (by omega)) (k := ?_)
              refine r_ireturn hm rfl rfl (by rfl) (Nat.le_of_ble_eq_true rfl) (Nat.le_of_ble_eq_true rfl) ?_
              unfold gdPc at hcp
              have c60 : S.1.2.1 4 q < 20 := by omega
              have eb : (if kd = 1 then b else 0) = b := if_pos (by omega)
              have eO : oPiece S (q : Int) kd a b = wT S (pcT S.1 q kd a b) := by
                unfold oPiece
                rw [if_pos ⟨by omega, hcp, c110, c60⟩, Int.toNat_natCast, eb]
              have eA : aPiece S (q : Int) kd a b = S.1.2.1 4 q + 1 := by
                unfold aPiece
                rw [if_neg (by omega), if_neg (fun z => z hcp), if_neg (fun z => z c110), if_neg (fun z => z c60), Int.toNat_natCast]
              have SX : Sm (fun a k => (1088 ≤ a ∧ a ≤ 1092 ∧ 180 ≤ k) ∨ (1093 ≤ a ∧ a ≤ 1095 ∧ 3600 ≤ k)) h (putI (putI (putI (putI h 1093 (20 * (180 + q) + n) kd) 1094 (20 * (180 + q) + n) a) 1095 (20 * (180 + q) + n) b) 1092 (180 + q) ((n : Int) + 1)) := Sm.put (Sm.put (Sm.put (Sm.put Sm.refl (by omega)) (by omega)) (by omega)) (by omega)
              rw [eO, eA]
              exact ⟨I.mut ok SX (fun a k z => by omega) (RepM_pc hR (fun i9 hi9 => by have := hok.2.1 i9 hi9; unfold okIt at this; exact this.2.2.2.2.2.2.2.2.2.1) (by omega) en (by omega)) ((SX.2.2 _ _ (by omega)).trans hG), SX.mono (fun a k z => by omega), by rw [en]⟩
          · refine r_sipush hm rfl (k := ?_)
            refine r_ireturn hm rfl rfl (by rfl) (Nat.le_of_ble_eq_true rfl) (Nat.le_of_ble_eq_true rfl) ?_
            unfold gdPc at hcp
            have c60 : ¬ S.1.2.1 4 q < 20 := by omega
            unfold oPiece aPiece
            simp only [Int.toNat_natCast]
            rw [if_neg (fun z => c60 z.2.2.2), if_neg (by omega), if_neg (fun z => z hcp), if_neg (fun z => z c110), if_pos c60]
            exact ⟨I, Sm.refl, rfl⟩
        · refine r_sipush hm rfl (k := ?_)
          refine r_ireturn hm rfl rfl (by rfl) (Nat.le_of_ble_eq_true rfl) (Nat.le_of_ble_eq_true rfl) ?_
          unfold gdPc at hcp
          unfold oPiece aPiece
          simp only [Int.toNat_natCast]
          rw [if_neg (fun z => c110 z.2.2.1), if_neg (by omega), if_neg (fun z => z hcp), if_pos c110]
          exact ⟨I, Sm.refl, rfl⟩
      · have hcp : ¬ gdPc kd a b := by unfold gdPc; omega
        clear hb5
        refine r_sipush hm rfl (k := ?_)
        refine r_ireturn hm rfl rfl (by rfl) (Nat.le_of_ble_eq_true rfl) (Nat.le_of_ble_eq_true rfl) ?_
        unfold gdPc at hcp
        unfold oPiece aPiece
        rw [if_neg (fun z => hcp z.2.1), if_neg (by omega), if_pos hcp]
        exact ⟨I, Sm.refl, rfl⟩
    refine r_iload_n hm rfl (k := ?_)
    refine r_if_ne (t := 28) hm rfl rfl (fun c13 => ?_) (fun c13 => ?_)
    · refine r_iload_n hm rfl (k := ?_)
      refine r_iconst hm rfl (k := ?_)
      refine r_icmp_ne (t := 66) hm rfl rfl (fun c30 => ?_) (fun c30 => ?_)
      · refine r_iload_n hm rfl (k := ?_)
        refine r_iconst hm rfl (k := ?_)
        refine r_icmp_ne (t := 87) hm rfl rfl (fun c68 => ?_) (fun c68 => ?_)
        · refine r_iconst hm rfl (k := ?_)
          refine r_istore hm rfl (k := ?_)
          exact MG _ (by omega)
        · refine r_iload_n hm rfl (k := ?_)
          refine r_i2l hm rfl (k := ?_)
          refine r_lconst hm rfl (k := ?_)
          refine r_ldc2 hm rfl (hd := rfl) (k := ?_)
          refine r_calls (j2 := 162) hm rfl rfl rfl rfl rfl rfl (Nat.le_of_ble_eq_true rfl) (Nat.le_of_ble_eq_true rfl) rfl ⟨Nat.le_of_ble_eq_true rfl, Nat.le_of_ble_eq_true rfl, Nat.le_of_ble_eq_true rfl, Nat.le_of_ble_eq_true rfl, Nat.le_of_ble_eq_true rfl⟩ rfl (m_in (z := a) (a := 1) (b := 5) (zL_t ha0) rfl rfl) (fun v9 h9 p9 => ?_)
          obtain ⟨e1, e2⟩ := p9
          subst e2
          replace e1 := e1.symm
          subst e1
          obtain ⟨b8, eb8, hb8⟩ := ite01 (p := (1 : Int) ≤ a ∧ a ≤ (5 : Int))
          rw [eb8]
          change RN 170 80 _ _ _ 0 0 _
          dsimp only [Option.toList, List.cons_append, List.nil_append]
          refine r_if_eq (t := 87) hm rfl rfl (fun c80 => ?_) (fun c80 => ?_)
          · refine r_iconst hm rfl (k := ?_)
            refine r_istore hm rfl (k := ?_)
            exact MG _ (by omega)
          · refine r_iconst hm rfl (k := ?_)
            refine r_goto (t := 88) hm rfl (k := ?_)
            refine r_istore hm rfl (k := ?_)
            exact MG _ (by omega)
      · refine r_iload_n hm rfl (k := ?_)
        refine r_i2l hm rfl (k := ?_)
        refine r_lconst hm rfl (k := ?_)
        refine r_ldc2 hm rfl (hd := rfl) (k := ?_)
        refine r_calls (j2 := 162) hm rfl rfl rfl rfl rfl rfl (Nat.le_of_ble_eq_true rfl) (Nat.le_of_ble_eq_true rfl) rfl ⟨Nat.le_of_ble_eq_true rfl, Nat.le_of_ble_eq_true rfl, Nat.le_of_ble_eq_true rfl, Nat.le_of_ble_eq_true rfl, Nat.le_of_ble_eq_true rfl⟩ rfl (m_in (z := a) (a := 0) (b := 99) (zL_t ha0) rfl rfl) (fun v9 h9 p9 => ?_)
        obtain ⟨e1, e2⟩ := p9
        subst e2
        replace e1 := e1.symm
        subst e1
        obtain ⟨b8, eb8, hb8⟩ := ite01 (p := (0 : Int) ≤ a ∧ a ≤ (99 : Int))
        rw [eb8]
        change RN 170 42 _ _ _ 0 0 _
        dsimp only [Option.toList, List.cons_append, List.nil_append]
        refine r_if_eq (t := 62) hm rfl rfl (fun c42 => ?_) (fun c42 => ?_)
        · refine r_iconst hm rfl (k := ?_)
          refine r_goto (t := 88) hm rfl (k := ?_)
          refine r_istore hm rfl (k := ?_)
          exact MG _ (by omega)
        · refine r_iload hm rfl (k := ?_)
          refine r_i2l hm rfl (k := ?_)
          refine r_lconst hm rfl (k := ?_)
          refine r_ldc2 hm rfl (hd := rfl) (k := ?_)
          refine r_calls (j2 := 162) hm rfl rfl rfl rfl rfl rfl (Nat.le_of_ble_eq_true rfl) (Nat.le_of_ble_eq_true rfl) rfl ⟨Nat.le_of_ble_eq_true rfl, Nat.le_of_ble_eq_true rfl, Nat.le_of_ble_eq_true rfl, Nat.le_of_ble_eq_true rfl, Nat.le_of_ble_eq_true rfl⟩ rfl (m_in (z := b) (a := 0) (b := 2) (zL_t hb0) rfl rfl) (fun v9 h9 p9 => ?_)
          obtain ⟨e1, e2⟩ := p9
          subst e2
          replace e1 := e1.symm
          subst e1
          obtain ⟨b7, eb7, hb7⟩ := ite01 (p := (0 : Int) ≤ b ∧ b ≤ (2 : Int))
          rw [eb7]
          change RN 170 55 _ _ _ 0 0 _
          dsimp only [Option.toList, List.cons_append, List.nil_append]
          refine r_if_eq (t := 62) hm rfl rfl (fun c55 => ?_) (fun c55 => ?_)
          · refine r_iconst hm rfl (k := ?_)
            refine r_goto (t := 88) hm rfl (k := ?_)
            refine r_istore hm rfl (k := ?_)
            exact MG _ (by omega)
          · refine r_iconst hm rfl (k := ?_)
            refine r_goto (t := 88) hm rfl (k := ?_)
            refine r_istore hm rfl (k := ?_)
            exact MG _ (by omega)
    · refine r_iload_n hm rfl (k := ?_)
      refine r_i2l hm rfl (k := ?_)
      refine r_lconst hm rfl (k := ?_)
      refine r_ldc2 hm rfl (hd := rfl) (k := ?_)
      refine r_calls (j2 := 162) hm rfl rfl rfl rfl rfl rfl (Nat.le_of_ble_eq_true rfl) (Nat.le_of_ble_eq_true rfl) rfl ⟨Nat.le_of_ble_eq_true rfl, Nat.le_of_ble_eq_true rfl, Nat.le_of_ble_eq_true rfl, Nat.le_of_ble_eq_true rfl, Nat.le_of_ble_eq_true rfl⟩ rfl (m_in (z := a) (a := 1) (b := 20) (zL_t ha0) rfl rfl) (fun v9 h9 p9 => ?_)
      obtain ⟨e1, e2⟩ := p9
      subst e2
      replace e1 := e1.symm
      subst e1
      obtain ⟨b8, eb8, hb8⟩ := ite01 (p := (1 : Int) ≤ a ∧ a ≤ (20 : Int))
      rw [eb8]
      change RN 170 25 _ _ _ 0 0 _
      dsimp only [Option.toList, List.cons_append, List.nil_append]
      refine r_goto (t := 88) hm rfl (k := ?_)
      refine r_istore hm rfl (k := ?_)
      exact MG _ (by omega)
  · refine r_sipush hm rfl (k := ?_)
    refine r_ireturn hm rfl rfl (by rfl) (Nat.le_of_ble_eq_true rfl) (Nat.le_of_ble_eq_true rfl) ?_
    unfold oPiece aPiece
    rw [if_neg (fun z => absurd z.1 (by omega)), if_pos (by omega)]
    exact ⟨I, Sm.refl, rfl⟩
theorem bst_go {x : Tx} {d a : Nat} {s : Int × Int} (h : 0 < d) : bst x d a s = bst x (d - 1) (a + 1) (if ocm x a (fin x a) = 0 ∧ (s.2 = -1 ∨ pgs x a (fin x a) < s.2) then ((a : Int), pgs x a (fin x a)) else s) := by
  obtain ⟨e, rfl⟩ : ∃ e, d = e + 1 := ⟨d - 1, by omega⟩
  rfl
theorem pgs_rng {x : Tx} {H : Int} {r : Nat} (hok : okTx x) (hH : 8 ≤ H ∧ H ≤ 60) : 0 ≤ pgs x H r ∧ pgs x H r ≤ 1250 := by
  have h1 := (psf_ok (x := x) (H := H) (lt := ltR x H r) hok (ltR_ok hok r) hH).1.rng (TT_le hok (Nat.le_refl _))
  unfold pgs
  split <;> omega
set_option maxHeartbeats 4000000 in
set_option maxRecDepth 8000 in
theorem c_best {L : Nat} {h : Hp} {S : St} (I : InvC L h S) (ok : okS S) {aI bI w : Int} (ha0 : inI aI) (hb0 : inI bI) : RN 104 0 [some (.inr (.inr (some (28)))), some (.inl aI), some (.inl bI), some (.inl w), none, none, none, none] [] h 0 0 (fun v h2 => InvC L h2 S ∧ FxC h h2 ∧ v = some (.inl (aBest S aI bI w))) := by
  have hm : mrec 104 = some nM104 := rfl
  obtain ⟨g, C, hR, hV, hK, hG, hSt, hL, hB, hFl⟩ := id I
  have hok := ok.1
  have ht : isT 29 := Or.inl rfl
  obtain ⟨T1, T2, T3, T4, T5, T6, T7⟩ := g.tx ht
  obtain ⟨I0, I1, I2, I3, I4, J0, J1, J2, F0, F1, F2, F3, F4, P0, P1, P2⟩ := hR.use g ht
  obtain ⟨R1, R2, R3, R4, R5, R6, R7⟩ := id hR
  have n60 := hok.1
  have g1 := g
  unfold inI at ha0 hb0
  refine r_iload_n hm rfl (k := ?_)
  refine r_bipush hm rfl (k := ?_)
  refine r_icmp_lt (t := 34) hm rfl rfl (fun c3 => ?_) (fun c3 => ?_)
  · refine r_sipush hm rfl (k := ?_)
    refine r_ireturn hm rfl rfl (by rfl) (Nat.le_of_ble_eq_true rfl) (Nat.le_of_ble_eq_true rfl) ?_
    refine ⟨I, FxC.refl, ?_⟩
    unfold aBest
    rw [if_pos (by omega)]
  · refine r_iload_n hm rfl (k := ?_)
    refine r_bipush hm rfl (k := ?_)
    refine r_icmp_gt (t := 34) hm rfl rfl (fun c9 => ?_) (fun c9 => ?_)
    · refine r_sipush hm rfl (k := ?_)
      refine r_ireturn hm rfl rfl (by rfl) (Nat.le_of_ble_eq_true rfl) (Nat.le_of_ble_eq_true rfl) ?_
      refine ⟨I, FxC.refl, ?_⟩
      unfold aBest
      rw [if_pos (by omega)]
    · refine r_iload_n hm rfl (k := ?_)
      refine r_iload_n hm rfl (k := ?_)
      refine r_icmp_lt (t := 34) hm rfl rfl (fun c14 => ?_) (fun c14 => ?_)
      · refine r_sipush hm rfl (k := ?_)
        refine r_ireturn hm rfl rfl (by rfl) (Nat.le_of_ble_eq_true rfl) (Nat.le_of_ble_eq_true rfl) ?_
        refine ⟨I, FxC.refl, ?_⟩
        unfold aBest
        rw [if_pos (by omega)]
      · refine r_iload_n hm rfl (k := ?_)
        refine r_iload_n hm rfl (k := ?_)
        refine r_isub hm rfl (hr := (by omega)) (k := ?_)
        refine r_bipush hm rfl (k := ?_)
        refine r_icmp_ge (t := 34) hm rfl rfl (fun c22 => ?_) (fun c22 => ?_)
        · refine r_sipush hm rfl (k := ?_)
          refine r_ireturn hm rfl rfl (by rfl) (Nat.le_of_ble_eq_true rfl) (Nat.le_of_ble_eq_true rfl) ?_
          refine ⟨I, FxC.refl, ?_⟩
          unfold aBest
          rw [if_pos (by omega)]
        · refine r_iload_n hm rfl (k := ?_)
          refine r_if_lt (t := 34) hm rfl rfl (fun c26 => ?_) (fun c26 => ?_)
          · refine r_sipush hm rfl (k := ?_)
            refine r_ireturn hm rfl rfl (by rfl) (Nat.le_of_ble_eq_true rfl) (Nat.le_of_ble_eq_true rfl) ?_
            refine ⟨I, FxC.refl, ?_⟩
            unfold aBest
            rw [if_pos (by omega)]
          · refine r_iload_n hm rfl (k := ?_)
            refine r_iconst hm rfl (k := ?_)
            refine r_icmp_le (t := 38) hm rfl rfl (fun c31 => ?_) (fun c31 => ?_)
            · obtain ⟨a, rfl⟩ := Int.eq_ofNat_of_zero_le (show 0 ≤ aI by omega)
              obtain ⟨b, rfl⟩ := Int.eq_ofNat_of_zero_le (show 0 ≤ bI by omega)
              refine r_iconst hm rfl (k := ?_)
              refine r_istore hm rfl (k := ?_)
              refine r_iconst hm rfl (k := ?_)
              refine r_istore hm rfl (k := ?_)
              refine r_iload_n hm rfl (k := ?_)
              refine r_istore hm rfl (k := ?_)
              suffices LP : ∀ (d c : Nat) (h1 : Hp) (z7 : Option Vl) (p1 p2 : Int), c + d = b + 1 → a ≤ c → InvC L h1 S → FxC h h1 → (p2 = -1 ∨ 0 ≤ p2) → bst S.1 d c (p1, p2) = (bst S.1 (b - a + 1) a (-1, -1)) → RN 104 47 [some (.inr (.inr (some (28)))), some (.inl (a : Int)), some (.inl (b : Int)), some (.inl w), some (.inl p1), some (.inl p2), some (.inl (c : Int)), z7] [] h1 0 0 (fun v h2 => InvC L h2 S ∧ FxC h h2 ∧ v = some (.inl (aBest S (a : Int) (b : Int) w))) from LP (b - a + 1) a h _ (-1) (-1) (by omega) (Nat.le_refl _) I FxC.refl (Or.inl rfl) rfl
              clear I g g1 C hR hV hK hG hSt hL hB hFl T1 T2 T3 T4 T5 T6 T7 I0 I1 I2 I3 I4 J0 J1 J2 F0 F1 F2 F3 F4 P0 P1 P2 R1 R2 R3 R4 R5 R6 R7
              refine fun d => Nat.strongRecOn d (fun d ih => ?_)
              intro c h1 z7 p1 p2 hd hac I fx hp2 hr
              obtain ⟨g, C, hR, hV, hK, hG, hSt, hL, hB, hFl⟩ := id I
              have g1 := g
              refine r_iload hm rfl (k := ?_)
              refine r_iload_n hm rfl (k := ?_)
              refine r_icmp_gt (t := 125) hm rfl rfl (fun c50 => ?_) (fun c50 => ?_)
              · refine r_iload_n hm rfl (k := ?_)
                refine r_if_ne (t := 134) hm rfl rfl (fun c126 => ?_) (fun c126 => ?_)
                · refine r_iload hm rfl (k := ?_)
                  refine r_ireturn hm rfl rfl (by rfl) (Nat.le_of_ble_eq_true rfl) (Nat.le_of_ble_eq_true rfl) ?_
                  have e0 : d = 0 := by omega
                  subst e0
                  have e1 : (p1, p2) = (bst S.1 (b - a + 1) a (-1, -1)) := hr
                  refine ⟨I, fx, ?_⟩
                  unfold aBest
                  rw [if_neg (by omega), if_neg (by omega), show ((b : Int) - (a : Int) + 1).toNat = b - a + 1 by omega, Int.toNat_natCast, ← e1]
                · refine r_iload hm rfl (k := ?_)
                  refine r_goto (t := 136) hm rfl (k := ?_)
                  refine r_ireturn hm rfl rfl (by rfl) (Nat.le_of_ble_eq_true rfl) (Nat.le_of_ble_eq_true rfl) ?_
                  have e0 : d = 0 := by omega
                  subst e0
                  have e1 : (p1, p2) = (bst S.1 (b - a + 1) a (-1, -1)) := hr
                  refine ⟨I, fx, ?_⟩
                  unfold aBest
                  rw [if_neg (by omega), if_pos (by omega), show ((b : Int) - (a : Int) + 1).toNat = b - a + 1 by omega, Int.toNat_natCast, ← e1]
              · refine r_aload_n hm rfl (k := ?_)
                refine r_getR (hm := hm) (hf := rfl) (hd := rfl) (hs := (by first | assumption | exact (g1.1 _).trans rfl | exact I1 _ (by omega) | exact I2 _ (by omega) | exact I3 _ (by omega) | exact I4 _ (by omega))) (hv := (by first | assumption | exact g1.2 _ _ _ rfl | exact y9)) (k := ?_)
                refine r_aload_n hm rfl (k := ?_)
                refine r_getR (hm := hm) (hf := rfl) (hd := rfl) (hs := (by first | assumption | exact (g1.1 _).trans rfl | exact I1 _ (by omega) | exact I2 _ (by omega) | exact I3 _ (by omega) | exact I4 _ (by omega))) (hv := (by first | assumption | exact g1.2 _ _ _ rfl | exact y9)) (k := ?_)
                refine r_iload hm rfl (k := ?_)
                refine r_callv (j2 := 54) hm rfl rfl rfl rfl rfl rfl (by first | assumption | exact (g1.1 _).trans rfl | exact I1 _ (by omega) | exact I2 _ (by omega) | exact I3 _ (by omega) | exact I4 _ (by omega)) (Nat.le_of_ble_eq_true rfl) (Nat.le_of_ble_eq_true rfl) rfl ⟨Nat.le_of_ble_eq_true rfl, Nat.le_of_ble_eq_true rfl, Nat.le_of_ble_eq_true rfl, Nat.le_of_ble_eq_true rfl, Nat.le_of_ble_eq_true rfl⟩ rfl (c_settle g C (Or.inr rfl) ht hR hok (by omega)) (fun v9 hA p9 => ?_)
                obtain ⟨SA, yA, e1⟩ := p9
                subst e1
                replace g1 := SA.gg (putR_gg g (rfl : rff 319 8 = none))
                have eR : ∀ a9 k, a9 ≠ 319 → hA.2.2.1 a9 k = h1.2.2.1 a9 k := fun a9 k e => by rw [SA.2.1]; exact putR_ne (by omega)
                have I2 : InvC L hA S := I.fr g1 eR (fun a9 k e => SA.2.2 a9 k (fun z => e (by unfold regS at z; unfold idle; omega)))
                have fx2 : FxC h hA := fx.trans (fun a9 k e => SA.2.2 a9 k (by unfold regS; omega))
                obtain ⟨y8, y9, y10, y11, y20, yP, yL, yF, yl, yn, ym, yN⟩ := id yA
                have pr := pgs_rng (x := S.1) (H := (c : Int)) (r := fin S.1 (c : Int)) hok (by omega)
                change RN 104 66 _ _ _ 0 0 _
                dsimp only [Option.toList, List.nil_append]
                refine r_iload hm rfl (k := ?_)
                refine r_iconst hm rfl (k := ?_)
                refine r_icmp_eq (t := 84) hm rfl rfl (fun c69 => ?_) (fun c69 => ?_)
                · refine r_iconst hm rfl (k := ?_)
                  refine r_goto (t := 89) hm rfl (k := ?_)
                  refine r_istore hm rfl (k := ?_)
                  refine r_aload_n hm rfl (k := ?_)
                  refine r_getR (hm := hm) (hf := rfl) (hd := rfl) (hs := (by first | assumption | exact (g1.1 _).trans rfl | exact I1 _ (by omega) | exact I2 _ (by omega) | exact I3 _ (by omega) | exact I4 _ (by omega))) (hv := (by first | assumption | exact g1.2 _ _ _ rfl | exact y9)) (k := ?_)
                  refine r_getI (hm := hm) (hf := rfl) (hd := rfl) (hs := (by first | assumption | exact (g1.1 _).trans rfl | exact I1 _ (by omega) | exact I2 _ (by omega) | exact I3 _ (by omega) | exact I4 _ (by omega))) (hv := (by first | assumption | exact g1.2 _ _ _ rfl | exact y9)) (k := ?_)
                  refine r_if_ne (t := 119) hm rfl rfl (fun c98 => ?_) (fun c98 => ?_)
                  · refine r_iinc hm rfl (hr := (by omega)) (k := ?_)
                    refine r_goto (t := 47) hm rfl (k := ?_)
                    exact ih (d - 1) (by omega) (c + 1) hA _ _ _ (by omega) (by omega) I2 fx2 (by omega) (by rw [← hr, bst_go (d := d) (by omega), if_neg (fun z => by have z1 := z.1; have z2 := z.2; dsimp only at z2; omega)])
                  · refine r_iload hm rfl (k := ?_)
                    refine r_if_eq (t := 119) hm rfl rfl (fun c103 => ?_) (fun c103 => ?_)
                    · exfalso; omega
                    · refine r_iload hm rfl (k := ?_)
                      refine r_istore hm rfl (k := ?_)
                      have qP := c_pagesInAll g1 (s := 319) (Or.inr rfl) ht I2.2.2.1 hok y8 yP
                      rw [show (if S.1.1 = 0 then 0 else ((psf S.1 (c : Int) (ltR S.1 (c : Int) (fin S.1 (c : Int)))).1 : Int)) = pgs S.1 (c : Int) (fin S.1 (c : Int)) from rfl] at qP
                      refine r_aload_n hm rfl (k := ?_)
                      refine r_getR (hm := hm) (hf := rfl) (hd := rfl) (hs := (by first | assumption | exact (g1.1 _).trans rfl | exact I1 _ (by omega) | exact I2 _ (by omega) | exact I3 _ (by omega) | exact I4 _ (by omega))) (hv := (by first | assumption | exact g1.2 _ _ _ rfl | exact y9)) (k := ?_)
                      refine r_callv (j2 := 75) hm rfl rfl rfl rfl rfl rfl (by first | assumption | exact (g1.1 _).trans rfl | exact I1 _ (by omega) | exact I2 _ (by omega) | exact I3 _ (by omega) | exact I4 _ (by omega)) (Nat.le_of_ble_eq_true rfl) (Nat.le_of_ble_eq_true rfl) rfl ⟨Nat.le_of_ble_eq_true rfl, Nat.le_of_ble_eq_true rfl, Nat.le_of_ble_eq_true rfl, Nat.le_of_ble_eq_true rfl, Nat.le_of_ble_eq_true rfl⟩ rfl (qP) (fun v9 h9 p9 => ?_)
                      obtain ⟨e1, e2⟩ := p9
                      subst e2
                      replace e1 := e1.symm
                      subst e1
                      change RN 104 117 _ _ _ 0 0 _
                      dsimp only [Option.toList, List.cons_append, List.nil_append]
                      refine r_istore hm rfl (k := ?_)
                      refine r_iinc hm rfl (hr := (by omega)) (k := ?_)
                      refine r_goto (t := 47) hm rfl (k := ?_)
                      exact ih (d - 1) (by omega) (c + 1) hA _ _ _ (by omega) (by omega) I2 fx2 (by omega) (by rw [← hr, bst_go (d := d) (by omega), if_pos ⟨by omega, by dsimp only; omega⟩])
                · have qP := c_pagesInAll g1 (s := 319) (Or.inr rfl) ht I2.2.2.1 hok y8 yP
                  rw [show (if S.1.1 = 0 then 0 else ((psf S.1 (c : Int) (ltR S.1 (c : Int) (fin S.1 (c : Int)))).1 : Int)) = pgs S.1 (c : Int) (fin S.1 (c : Int)) from rfl] at qP
                  refine r_aload_n hm rfl (k := ?_)
                  refine r_getR (hm := hm) (hf := rfl) (hd := rfl) (hs := (by first | assumption | exact (g1.1 _).trans rfl | exact I1 _ (by omega) | exact I2 _ (by omega) | exact I3 _ (by omega) | exact I4 _ (by omega))) (hv := (by first | assumption | exact g1.2 _ _ _ rfl | exact y9)) (k := ?_)
                  refine r_callv (j2 := 75) hm rfl rfl rfl rfl rfl rfl (by first | assumption | exact (g1.1 _).trans rfl | exact I1 _ (by omega) | exact I2 _ (by omega) | exact I3 _ (by omega) | exact I4 _ (by omega)) (Nat.le_of_ble_eq_true rfl) (Nat.le_of_ble_eq_true rfl) rfl ⟨Nat.le_of_ble_eq_true rfl, Nat.le_of_ble_eq_true rfl, Nat.le_of_ble_eq_true rfl, Nat.le_of_ble_eq_true rfl, Nat.le_of_ble_eq_true rfl⟩ rfl (qP) (fun v9 h9 p9 => ?_)
                  obtain ⟨e1, e2⟩ := p9
                  subst e2
                  replace e1 := e1.symm
                  subst e1
                  change RN 104 79 _ _ _ 0 0 _
                  dsimp only [Option.toList, List.cons_append, List.nil_append]
                  refine r_iload hm rfl (k := ?_)
                  refine r_icmp_ge (t := 88) hm rfl rfl (fun c81 => ?_) (fun c81 => ?_)
                  · refine r_iconst hm rfl (k := ?_)
                    refine r_istore hm rfl (k := ?_)
                    refine r_aload_n hm rfl (k := ?_)
                    refine r_getR (hm := hm) (hf := rfl) (hd := rfl) (hs := (by first | assumption | exact (g1.1 _).trans rfl | exact I1 _ (by omega) | exact I2 _ (by omega) | exact I3 _ (by omega) | exact I4 _ (by omega))) (hv := (by first | assumption | exact g1.2 _ _ _ rfl | exact y9)) (k := ?_)
                    refine r_getI (hm := hm) (hf := rfl) (hd := rfl) (hs := (by first | assumption | exact (g1.1 _).trans rfl | exact I1 _ (by omega) | exact I2 _ (by omega) | exact I3 _ (by omega) | exact I4 _ (by omega))) (hv := (by first | assumption | exact g1.2 _ _ _ rfl | exact y9)) (k := ?_)
                    refine r_if_ne (t := 119) hm rfl rfl (fun c98 => ?_) (fun c98 => ?_)
                    · refine r_iinc hm rfl (hr := (by omega)) (k := ?_)
                      refine r_goto (t := 47) hm rfl (k := ?_)
                      exact ih (d - 1) (by omega) (c + 1) hA _ _ _ (by omega) (by omega) I2 fx2 (by omega) (by rw [← hr, bst_go (d := d) (by omega), if_neg (fun z => by have z1 := z.1; have z2 := z.2; dsimp only at z2; omega)])
                    · refine r_iload hm rfl (k := ?_)
                      refine r_if_eq (t := 119) hm rfl rfl (fun c103 => ?_) (fun c103 => ?_)
                      · refine r_iinc hm rfl (hr := (by omega)) (k := ?_)
                        refine r_goto (t := 47) hm rfl (k := ?_)
                        exact ih (d - 1) (by omega) (c + 1) hA _ _ _ (by omega) (by omega) I2 fx2 (by omega) (by rw [← hr, bst_go (d := d) (by omega), if_neg (fun z => by have z1 := z.1; have z2 := z.2; dsimp only at z2; omega)])
                      · exfalso; omega
                  · refine r_iconst hm rfl (k := ?_)
                    refine r_goto (t := 89) hm rfl (k := ?_)
                    refine r_istore hm rfl (k := ?_)
                    refine r_aload_n hm rfl (k := ?_)
                    refine r_getR (hm := hm) (hf := rfl) (hd := rfl) (hs := (by first | assumption | exact (g1.1 _).trans rfl | exact I1 _ (by omega) | exact I2 _ (by omega) | exact I3 _ (by omega) | exact I4 _ (by omega))) (hv := (by first | assumption | exact g1.2 _ _ _ rfl | exact y9)) (k := ?_)
                    refine r_getI (hm := hm) (hf := rfl) (hd := rfl) (hs := (by first | assumption | exact (g1.1 _).trans rfl | exact I1 _ (by omega) | exact I2 _ (by omega) | exact I3 _ (by omega) | exact I4 _ (by omega))) (hv := (by first | assumption | exact g1.2 _ _ _ rfl | exact y9)) (k := ?_)
                    refine r_if_ne (t := 119) hm rfl rfl (fun c98 => ?_) (fun c98 => ?_)
                    · refine r_iinc hm rfl (hr := (by omega)) (k := ?_)
                      refine r_goto (t := 47) hm rfl (k := ?_)
                      exact ih (d - 1) (by omega) (c + 1) hA _ _ _ (by omega) (by omega) I2 fx2 (by omega) (by rw [← hr, bst_go (d := d) (by omega), if_neg (fun z => by have z1 := z.1; have z2 := z.2; dsimp only at z2; omega)])
                    · refine r_iload hm rfl (k := ?_)
                      refine r_if_eq (t := 119) hm rfl rfl (fun c103 => ?_) (fun c103 => ?_)
                      · exfalso; omega
                      · refine r_iload hm rfl (k := ?_)
                        refine r_istore hm rfl (k := ?_)
                        have qP := c_pagesInAll g1 (s := 319) (Or.inr rfl) ht I2.2.2.1 hok y8 yP
                        rw [show (if S.1.1 = 0 then 0 else ((psf S.1 (c : Int) (ltR S.1 (c : Int) (fin S.1 (c : Int)))).1 : Int)) = pgs S.1 (c : Int) (fin S.1 (c : Int)) from rfl] at qP
                        refine r_aload_n hm rfl (k := ?_)
                        refine r_getR (hm := hm) (hf := rfl) (hd := rfl) (hs := (by first | assumption | exact (g1.1 _).trans rfl | exact I1 _ (by omega) | exact I2 _ (by omega) | exact I3 _ (by omega) | exact I4 _ (by omega))) (hv := (by first | assumption | exact g1.2 _ _ _ rfl | exact y9)) (k := ?_)
                        refine r_callv (j2 := 75) hm rfl rfl rfl rfl rfl rfl (by first | assumption | exact (g1.1 _).trans rfl | exact I1 _ (by omega) | exact I2 _ (by omega) | exact I3 _ (by omega) | exact I4 _ (by omega)) (Nat.le_of_ble_eq_true rfl) (Nat.le_of_ble_eq_true rfl) rfl ⟨Nat.le_of_ble_eq_true rfl, Nat.le_of_ble_eq_true rfl, Nat.le_of_ble_eq_true rfl, Nat.le_of_ble_eq_true rfl, Nat.le_of_ble_eq_true rfl⟩ rfl (qP) (fun v9 h9 p9 => ?_)
                        obtain ⟨e1, e2⟩ := p9
                        subst e2
                        replace e1 := e1.symm
                        subst e1
                        change RN 104 117 _ _ _ 0 0 _
                        dsimp only [Option.toList, List.cons_append, List.nil_append]
                        refine r_istore hm rfl (k := ?_)
                        refine r_iinc hm rfl (hr := (by omega)) (k := ?_)
                        refine r_goto (t := 47) hm rfl (k := ?_)
                        exact ih (d - 1) (by omega) (c + 1) hA _ _ _ (by omega) (by omega) I2 fx2 (by omega) (by rw [← hr, bst_go (d := d) (by omega), if_pos ⟨by omega, by dsimp only; omega⟩])
            · refine r_sipush hm rfl (k := ?_)
              refine r_ireturn hm rfl rfl (by rfl) (Nat.le_of_ble_eq_true rfl) (Nat.le_of_ble_eq_true rfl) ?_
              refine ⟨I, FxC.refl, ?_⟩
              unfold aBest
              rw [if_pos (by omega)]
set_option maxHeartbeats 4000000 in
set_option maxRecDepth 8000 in
theorem m_best {L : Nat} {h : Hp} {S : St} (I : InvM L h S) (ok : okS S) {aI bI w : Int} (ha0 : inI aI) (hb0 : inI bI) (hw0 : inI w) : RN 212 0 [some (.inr (.inr (some 1085))), some (.inl aI), some (.inl bI), some (.inl w), none, none, none] [] h 0 0 (fun v h2 => InvM L h2 S ∧ FxM h h2 ∧ v = some (.inl (aBest S aI bI w))) := by
  have hm : mrec 212 = some nM212 := rfl
  obtain ⟨g, hR, hV, hK, hG, hL, hB, hFl⟩ := id I
  have hok := ok.1
  obtain ⟨M0, M1, M2, M3, M4, Q0, Q1, Q2, S0, N0, N1⟩ := hR.use
  have n60 := hok.1
  have g1 := g
  have hR1 := hR
  have hH : 8 ≤ S.1.2.2.2 0 ∧ S.1.2.2.2 0 ≤ 60 := by have := hok.2.2.2.2; unfold okStl at this; omega
  have ha1 := ha0
  have hb1 := hb0
  unfold inI at ha1 hb1
  refine r_iload_n hm rfl (k := ?_)
  refine r_i2l hm rfl (k := ?_)
  refine r_ldc2 hm rfl (hd := rfl) (k := ?_)
  refine r_ldc2 hm rfl (hd := rfl) (k := ?_)
  refine r_calls (j2 := 162) hm rfl rfl rfl rfl rfl rfl (Nat.le_of_ble_eq_true rfl) (Nat.le_of_ble_eq_true rfl) rfl ⟨Nat.le_of_ble_eq_true rfl, Nat.le_of_ble_eq_true rfl, Nat.le_of_ble_eq_true rfl, Nat.le_of_ble_eq_true rfl, Nat.le_of_ble_eq_true rfl⟩ rfl (m_in (z := aI) (a := 8) (b := 60) (zL_t ha0) rfl rfl) (fun v9 h9 p9 => ?_)
  obtain ⟨e1, e2⟩ := p9
  subst e2
  replace e1 := e1.symm
  subst e1
  obtain ⟨b9, eb9, hb9⟩ := ite01 (p := (8 : Int) ≤ aI ∧ aI ≤ (60 : Int))
  rw [eb9]
  change RN 212 11 _ _ _ 0 0 _
  dsimp only [Option.toList, List.cons_append, List.nil_append]
  refine r_if_eq (t := 45) hm rfl rfl (fun c11 => ?_) (fun c11 => ?_)
  · refine r_sipush hm rfl (k := ?_)
    refine r_ireturn hm rfl rfl (by rfl) (Nat.le_of_ble_eq_true rfl) (Nat.le_of_ble_eq_true rfl) ?_
    refine ⟨I, Sm.refl, ?_⟩
    unfold aBest
    rw [if_pos (by omega)]
  · refine r_iload_n hm rfl (k := ?_)
    refine r_i2l hm rfl (k := ?_)
    refine r_iload_n hm rfl (k := ?_)
    refine r_i2l hm rfl (k := ?_)
    refine r_ldc2 hm rfl (hd := rfl) (k := ?_)
    refine r_calls (j2 := 162) hm rfl rfl rfl rfl rfl rfl (Nat.le_of_ble_eq_true rfl) (Nat.le_of_ble_eq_true rfl) rfl ⟨Nat.le_of_ble_eq_true rfl, Nat.le_of_ble_eq_true rfl, Nat.le_of_ble_eq_true rfl, Nat.le_of_ble_eq_true rfl, Nat.le_of_ble_eq_true rfl⟩ rfl (m_in (z := bI) (a := aI) (b := 60) (zL_t hb0) (zL_t ha0) rfl) (fun v9 h9 p9 => ?_)
    obtain ⟨e1, e2⟩ := p9
    subst e2
    replace e1 := e1.symm
    subst e1
    obtain ⟨b8, eb8, hb8⟩ := ite01 (p := (aI : Int) ≤ bI ∧ bI ≤ (60 : Int))
    rw [eb8]
    change RN 212 24 _ _ _ 0 0 _
    dsimp only [Option.toList, List.cons_append, List.nil_append]
    refine r_if_eq (t := 45) hm rfl rfl (fun c24 => ?_) (fun c24 => ?_)
    · refine r_sipush hm rfl (k := ?_)
      refine r_ireturn hm rfl rfl (by rfl) (Nat.le_of_ble_eq_true rfl) (Nat.le_of_ble_eq_true rfl) ?_
      refine ⟨I, Sm.refl, ?_⟩
      unfold aBest
      rw [if_pos (by omega)]
    · refine r_iload_n hm rfl (k := ?_)
      refine r_iload_n hm rfl (k := ?_)
      refine r_isub hm rfl (hr := (by omega)) (k := ?_)
      refine r_bipush hm rfl (k := ?_)
      refine r_icmp_gt (t := 45) hm rfl rfl (fun c32 => ?_) (fun c32 => ?_)
      · refine r_sipush hm rfl (k := ?_)
        refine r_ireturn hm rfl rfl (by rfl) (Nat.le_of_ble_eq_true rfl) (Nat.le_of_ble_eq_true rfl) ?_
        refine ⟨I, Sm.refl, ?_⟩
        unfold aBest
        rw [if_pos (by omega)]
      · refine r_iload_n hm rfl (k := ?_)
        refine r_i2l hm rfl (k := ?_)
        refine r_lconst hm rfl (k := ?_)
        refine r_lconst hm rfl (k := ?_)
        refine r_calls (j2 := 162) hm rfl rfl rfl rfl rfl rfl (Nat.le_of_ble_eq_true rfl) (Nat.le_of_ble_eq_true rfl) rfl ⟨Nat.le_of_ble_eq_true rfl, Nat.le_of_ble_eq_true rfl, Nat.le_of_ble_eq_true rfl, Nat.le_of_ble_eq_true rfl, Nat.le_of_ble_eq_true rfl⟩ rfl (m_in (z := w) (a := 0) (b := 1) (zL_t hw0) rfl rfl) (fun v9 h9 p9 => ?_)
        obtain ⟨e1, e2⟩ := p9
        subst e2
        replace e1 := e1.symm
        subst e1
        obtain ⟨b7, eb7, hb7⟩ := ite01 (p := (0 : Int) ≤ w ∧ w ≤ (1 : Int))
        rw [eb7]
        change RN 212 42 _ _ _ 0 0 _
        dsimp only [Option.toList, List.cons_append, List.nil_append]
        refine r_if_ne (t := 49) hm rfl rfl (fun c42 => ?_) (fun c42 => ?_)
        · obtain ⟨a, rfl⟩ := Int.eq_ofNat_of_zero_le (show 0 ≤ aI by omega)
          obtain ⟨b, rfl⟩ := Int.eq_ofNat_of_zero_le (show 0 ≤ bI by omega)
          have hgd : 8 ≤ (a : Int) ∧ (b : Int) ≤ 60 ∧ (a : Int) ≤ (b : Int) ∧ (b : Int) - (a : Int) < 16 ∧ 0 ≤ w ∧ w ≤ 1 := by omega
          clear hb7 hb8 hb9
          refine r_iconst hm rfl (k := ?_)
          refine r_istore hm rfl (k := ?_)
          refine r_iconst hm rfl (k := ?_)
          refine r_istore hm rfl (k := ?_)
          refine r_iload_n hm rfl (k := ?_)
          refine r_istore hm rfl (k := ?_)
          suffices LP : ∀ (d c : Nat) (h1 : Hp) (p1 p2 : Int), c + d = b + 1 → a ≤ c → Sm regM h h1 → RepM h1 3 S.1 → (p2 = -1 ∨ 0 ≤ p2) → bst S.1 d c (p1, p2) = (bst S.1 (b - a + 1) a (-1, -1)) → RN 212 58 [some (.inr (.inr (some 1085))), some (.inl (a : Int)), some (.inl (b : Int)), some (.inl w), some (.inl p1), some (.inl p2), some (.inl (c : Int))] [] h1 0 0 (fun v h2 => InvM L h2 S ∧ FxM h h2 ∧ v = some (.inl (aBest S (a : Int) (b : Int) w))) from LP (b - a + 1) a h (-1) (-1) (by omega) (Nat.le_refl _) Sm.refl hR (Or.inl rfl) rfl
          refine fun d => Nat.strongRecOn d (fun d ih => ?_)
          intro c h1 p1 p2 hd hac S1 hR2 hp2 hr
          replace g1 := S1.gg g
          refine r_iload hm rfl (k := ?_)
          refine r_iload_n hm rfl (k := ?_)
          refine r_icmp_gt (t := 118) hm rfl rfl (fun c61 => ?_) (fun c61 => ?_)
          · refine r_iload_n hm rfl (k := ?_)
            refine r_if_ne (t := 127) hm rfl rfl (fun c119 => ?_) (fun c119 => ?_)
            · refine r_iload hm rfl (k := ?_)
              refine r_ireturn hm rfl rfl (by rfl) (Nat.le_of_ble_eq_true rfl) (Nat.le_of_ble_eq_true rfl) ?_
              have e0 : d = 0 := by omega
              subst e0
              have e1 : (p1, p2) = (bst S.1 (b - a + 1) a (-1, -1)) := hr
              refine ⟨I.sm S1 (fun a k z => by unfold regM at z; unfold idleM; omega), S1.mono (fun a k z => by unfold regM at z; omega), ?_⟩
              unfold aBest
              rw [if_neg (by omega), if_neg (by omega), show ((b : Int) - (a : Int) + 1).toNat = b - a + 1 by omega, Int.toNat_natCast, ← e1]
            · refine r_iload hm rfl (k := ?_)
              refine r_goto (t := 129) hm rfl (k := ?_)
              refine r_ireturn hm rfl rfl (by rfl) (Nat.le_of_ble_eq_true rfl) (Nat.le_of_ble_eq_true rfl) ?_
              have e0 : d = 0 := by omega
              subst e0
              have e1 : (p1, p2) = (bst S.1 (b - a + 1) a (-1, -1)) := hr
              refine ⟨I.sm S1 (fun a k z => by unfold regM at z; unfold idleM; omega), S1.mono (fun a k z => by unfold regM at z; omega), ?_⟩
              unfold aBest
              rw [if_neg (by omega), if_pos (by omega), show ((b : Int) - (a : Int) + 1).toNat = b - a + 1 by omega, Int.toNat_natCast, ← e1]
          · refine r_aload_n hm rfl (k := ?_)
            refine r_iconst hm rfl (k := ?_)
            refine r_iload hm rfl (k := ?_)
            refine r_callv (j2 := 185) hm rfl rfl rfl rfl rfl rfl (by first | assumption | exact (g1.1 _).trans rfl) (Nat.le_of_ble_eq_true rfl) (Nat.le_of_ble_eq_true rfl) rfl ⟨Nat.le_of_ble_eq_true rfl, Nat.le_of_ble_eq_true rfl, Nat.le_of_ble_eq_true rfl, Nat.le_of_ble_eq_true rfl, Nat.le_of_ble_eq_true rfl⟩ rfl (m_setAll (c := 3) (ln := (c : Int)) (H := (c : Int)) g1 (by omega) hR2 hok (if_neg (by omega)).symm (by omega)) (fun v9 hA p9 => ?_)
            obtain ⟨SA, yA, e1⟩ := p9
            subst e1
            replace S1 : Sm regM h hA := S1.trans SA
            replace g1 := S1.gg g
            replace hR2 := SA.repM (fun a k z => regM_R z) hR2
            obtain ⟨hc1, y35, y36, y37, y11, yP, yL, yl, yn, yN⟩ := id yA
            have pr := pgs_rng (x := S.1) (H := (c : Int)) (r := fin S.1 (c : Int)) hok (by omega)
            have flr := fin_le (x := S.1) (H := (c : Int))
            change RN 212 71 _ _ _ 0 0 _
            dsimp only [Option.toList, List.nil_append]
            refine r_aload_n hm rfl (k := ?_)
            refine r_getI (hm := hm) (hf := rfl) (hd := rfl) (hs := (by first | assumption | exact (g1.1 _).trans rfl)) (hv := (by first | assumption | exact g1.2 _ _ _ rfl | exact y11 _ (by omega))) (k := ?_)
            refine r_if_ne (t := 112) hm rfl rfl (fun c75 => ?_) (fun c75 => ?_)
            · refine r_iinc hm rfl (hr := (by omega)) (k := ?_)
              refine r_goto (t := 58) hm rfl (k := ?_)
              exact ih (d - 1) (by omega) (c + 1) hA _ _ (by omega) (by omega) S1 hR2 (by omega) (by rw [← hr, bst_go (d := d) (by omega), if_neg (fun z => by have z1 := z.1; have z2 := z.2; dsimp only at z2; omega)])
            · refine r_iload hm rfl (k := ?_)
              refine r_if_lt (t := 97) hm rfl rfl (fun c80 => ?_) (fun c80 => ?_)
              · refine r_iload hm rfl (k := ?_)
                refine r_istore hm rfl (k := ?_)
                refine r_aload_n hm rfl (k := ?_)
                refine r_getR (hm := hm) (hf := rfl) (hd := rfl) (hs := (by first | assumption | exact (g1.1 _).trans rfl)) (hv := (by first | assumption | exact g1.2 _ _ _ rfl | exact y11 _ (by omega))) (k := ?_)
                refine r_aload_n hm rfl (k := ?_)
                refine r_getI (hm := hm) (hf := rfl) (hd := rfl) (hs := (by first | assumption | exact (g1.1 _).trans rfl)) (hv := (by first | assumption | exact g1.2 _ _ _ rfl | exact y11 _ (by omega))) (k := ?_)
                refine r_iald (hm := hm) (hf := rfl) (hs := (by first | assumption | exact (g1.1 _).trans rfl)) (hi := rfl) (hn := (by omega)) (hv := (by first | assumption | exact g1.2 _ _ _ rfl | exact y11 _ (by omega))) (k := ?_)
                refine r_istore hm rfl (k := ?_)
                refine r_iinc hm rfl (hr := (by omega)) (k := ?_)
                refine r_goto (t := 58) hm rfl (k := ?_)
                exact ih (d - 1) (by omega) (c + 1) hA _ _ (by omega) (by omega) S1 hR2 (by omega) (by rw [← hr, bst_go (d := d) (by omega), if_pos ⟨by omega, by dsimp only; omega⟩])
              · refine r_aload_n hm rfl (k := ?_)
                refine r_getR (hm := hm) (hf := rfl) (hd := rfl) (hs := (by first | assumption | exact (g1.1 _).trans rfl)) (hv := (by first | assumption | exact g1.2 _ _ _ rfl | exact y11 _ (by omega))) (k := ?_)
                refine r_aload_n hm rfl (k := ?_)
                refine r_getI (hm := hm) (hf := rfl) (hd := rfl) (hs := (by first | assumption | exact (g1.1 _).trans rfl)) (hv := (by first | assumption | exact g1.2 _ _ _ rfl | exact y11 _ (by omega))) (k := ?_)
                refine r_iald (hm := hm) (hf := rfl) (hs := (by first | assumption | exact (g1.1 _).trans rfl)) (hi := rfl) (hn := (by omega)) (hv := (by first | assumption | exact g1.2 _ _ _ rfl | exact y11 _ (by omega))) (k := ?_)
                refine r_iload hm rfl (k := ?_)
                refine r_icmp_ge (t := 112) hm rfl rfl (fun c94 => ?_) (fun c94 => ?_)
                · refine r_iinc hm rfl (hr := (by omega)) (k := ?_)
                  refine r_goto (t := 58) hm rfl (k := ?_)
                  exact ih (d - 1) (by omega) (c + 1) hA _ _ (by omega) (by omega) S1 hR2 (by omega) (by rw [← hr, bst_go (d := d) (by omega), if_neg (fun z => by have z1 := z.1; have z2 := z.2; dsimp only at z2; omega)])
                · refine r_iload hm rfl (k := ?_)
                  refine r_istore hm rfl (k := ?_)
                  refine r_aload_n hm rfl (k := ?_)
                  refine r_getR (hm := hm) (hf := rfl) (hd := rfl) (hs := (by first | assumption | exact (g1.1 _).trans rfl)) (hv := (by first | assumption | exact g1.2 _ _ _ rfl | exact y11 _ (by omega))) (k := ?_)
                  refine r_aload_n hm rfl (k := ?_)
                  refine r_getI (hm := hm) (hf := rfl) (hd := rfl) (hs := (by first | assumption | exact (g1.1 _).trans rfl)) (hv := (by first | assumption | exact g1.2 _ _ _ rfl | exact y11 _ (by omega))) (k := ?_)
                  refine r_iald (hm := hm) (hf := rfl) (hs := (by first | assumption | exact (g1.1 _).trans rfl)) (hi := rfl) (hn := (by omega)) (hv := (by first | assumption | exact g1.2 _ _ _ rfl | exact y11 _ (by omega))) (k := ?_)
                  refine r_istore hm rfl (k := ?_)
                  refine r_iinc hm rfl (hr := (by omega)) (k := ?_)
                  refine r_goto (t := 58) hm rfl (k := ?_)
                  exact ih (d - 1) (by omega) (c + 1) hA _ _ (by omega) (by omega) S1 hR2 (by omega) (by rw [← hr, bst_go (d := d) (by omega), if_pos ⟨by omega, by dsimp only; omega⟩])
        · refine r_sipush hm rfl (k := ?_)
          refine r_ireturn hm rfl rfl (by rfl) (Nat.le_of_ble_eq_true rfl) (Nat.le_of_ble_eq_true rfl) ?_
          refine ⟨I, Sm.refl, ?_⟩
          unfold aBest
          rw [if_pos (by omega)]
