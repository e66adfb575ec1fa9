/-! beside: the reference, whole -/
set_option maxHeartbeats 4000000 in
set_option maxRecDepth 8000 in
theorem m_keepWas {L : Nat} {h : Hp} {c : Nat} {y : Tx} {H : Int} (g : GG L h) (hc3 : c ≤ 3) (hR : RepM h c y) (hok : okTx y) (hH0 : H = y.2.2.2 0) (hH : 8 ≤ H ∧ H ≤ 60) : RN 223 0 [some (.inr (.inr (some 1085))), some (.inl (c : Int)), none, none, none, none] [] h 0 0 (fun v h2 => Sm (fun a k => regM a k ∨ (1118 ≤ a ∧ a ≤ 1124)) h h2 ∧ Was h2 y H y.1 ∧ v = none) := by
  have hm : mrec 223 = some nM223 := rfl
  have n60 := hok.1
  have g1 := g
  refine r_aload_n hm rfl (k := ?_)
  refine r_iload_n hm rfl (k := ?_)
  refine r_iconst hm rfl (k := ?_)
  refine r_callv (j2 := 185) hm rfl rfl rfl rfl rfl rfl (by first | assumption | exact (g1.1 _).trans rfl) (Nat.le_of_ble_eq_true rfl) (Nat.le_of_ble_eq_true rfl) rfl ⟨Nat.le_of_ble_eq_true rfl, Nat.le_of_ble_eq_true rfl, Nat.le_of_ble_eq_true rfl, Nat.le_of_ble_eq_true rfl, Nat.le_of_ble_eq_true rfl⟩ rfl (m_setAll (c := c) (ln := 0) (H := H) g hc3 hR hok (by rw [hH0]; exact (if_pos rfl).symm) hH) (fun v9 h0 p9 => ?_)
  obtain ⟨S0_, yS, e1⟩ := p9
  subst e1
  have g0 := S0_.gg g
  have hR0 := S0_.repM (fun a k z => regM_R z) hR
  obtain ⟨y12, y35, y36, y37, y11, yP, yL, yl, yn, yN⟩ := id yS
  have flr := fin_le (x := y) (H := H)
  have g1 := g0
  change RN 223 6 _ _ _ 0 0 _
  dsimp only [Option.toList, List.nil_append]
  refine r_iconst hm rfl (k := ?_)
  refine r_istore_n hm rfl (k := ?_)
  suffices LP : ∀ (d k : Nat) (h1 : Hp), k + d = 200 → Sm (fun a _ => 1118 ≤ a ∧ a ≤ 1124) h0 h1 → (∀ n, n < k → h1.2.1 1118 n = -1) → RN 223 8 [some (.inr (.inr (some 1085))), some (.inl (c : Int)), some (.inl (k : Int)), none, none, none] [] h1 0 0 (fun v h2 => Sm (fun a k => regM a k ∨ (1118 ≤ a ∧ a ≤ 1124)) h h2 ∧ Was h2 y H y.1 ∧ v = none) from LP 200 0 _ (by omega) Sm.refl (fun n hn => absurd hn (Nat.not_lt_zero _))
  clear g1
  refine fun d => Nat.strongRecOn d (fun d ih => ?_)
  intro k h1 hd T1 eM
  have g1 := T1.gg g0
  have hc1 := (T1.2.2 1085 12 (by omega)).trans y12
  have hR1 := T1.repM (fun a k z => by omega) hR0
  obtain ⟨M0, M1, M2, M3, M4, Q0, Q1, Q2, S0, N0, N1⟩ := hR1.use
  have e36 := (T1.2.2 1085 36 (by omega)).trans y36
  have eN := yN.keep T1 (fun a k z => by omega)
  have el := yl.same T1 (fun a k z => by omega)
  have eFp := fun q (hq : q < y.1) => (T1.2.2 1107 q (by omega)).trans (yP.2.2.2.2.2.1 q (by have := (psf_ok hok (ltR_ok (H := H) hok (fin y H)) hH).2.1 q hq; omega))
  refine r_iload_n hm rfl (k := ?_)
  refine r_sipush hm rfl (k := ?_)
  refine r_icmp_ge (t := 28) hm rfl rfl (fun c12 => ?_) (fun c12 => ?_)
  · refine r_iconst hm rfl (k := ?_)
    refine r_istore_n hm rfl (k := ?_)
    suffices LP : ∀ (d i : Nat) (h1 : Hp) (z3 z4 z5 : Option Vl), i + d = y.1 → Sm (fun a _ => 1118 ≤ a ∧ a ≤ 1124) h0 h1 → Was h1 y H i → RN 223 30 [some (.inr (.inr (some 1085))), some (.inl (c : Int)), some (.inl (i : Int)), z3, z4, z5] [] h1 0 0 (fun v h2 => Sm (fun a k => regM a k ∨ (1118 ≤ a ∧ a ≤ 1124)) h h2 ∧ Was h2 y H y.1 ∧ v = none) from LP y.1 0 _ _ _ _ (by omega) T1 ⟨fun q hq => absurd hq (Nat.not_lt_zero _), fun n hn _ => eM n (by omega)⟩
    clear g1 hc1 hR1 M0 M1 M2 M3 M4 Q0 Q1 Q2 S0 N0 N1 e36 eN el eFp T1 eM ih
    refine fun d => Nat.strongRecOn d (fun d ih => ?_)
    intro i h1 z3 z4 z5 hd T1 eW
    have g1 := T1.gg g0
    have hc1 := (T1.2.2 1085 12 (by omega)).trans y12
    have hR1 := T1.repM (fun a k z => by omega) hR0
    obtain ⟨M0, M1, M2, M3, M4, Q0, Q1, Q2, S0, N0, N1⟩ := hR1.use
    have e36 := (T1.2.2 1085 36 (by omega)).trans y36
    have eN := yN.keep T1 (fun a k z => by omega)
    have el := yl.same T1 (fun a k z => by omega)
    have eFp := fun q (hq : q < y.1) => (T1.2.2 1107 q (by omega)).trans (yP.2.2.2.2.2.1 q (by have := (psf_ok hok (ltR_ok (H := H) hok (fin y H)) hH).2.1 q hq; omega))
    refine r_iload_n hm rfl (k := ?_)
    refine r_aload_n hm rfl (k := ?_)
    refine r_getR (hm := hm) (hf := rfl) (hd := rfl) (hs := (by first | assumption | exact (g1.1 _).trans rfl)) (hv := (by first | exact putI_eq | exact (putI_ne (by omega)).trans (by first | exact putI_eq | exact (putI_ne (by omega)).trans (by first | first | assumption | exact g1.2 _ _ _ rfl | exact M0 _ (by omega) | exact Q0 _ _ (by omega) (by omega) | exact (eN _ (by omega)).2.1 | exact (eN _ (by omega)).2.2.1 | exact eFp _ (by omega) | exact el.1 _ _ (by omega) (by omega) | exact rfl) | first | assumption | exact g1.2 _ _ _ rfl | exact M0 _ (by omega) | exact Q0 _ _ (by omega) (by omega) | exact (eN _ (by omega)).2.1 | exact (eN _ (by omega)).2.2.1 | exact eFp _ (by omega) | exact el.1 _ _ (by omega) (by omega) | exact rfl) | first | assumption | exact g1.2 _ _ _ rfl | exact M0 _ (by omega) | exact Q0 _ _ (by omega) (by omega) | exact (eN _ (by omega)).2.1 | exact (eN _ (by omega)).2.2.1 | exact eFp _ (by omega) | exact el.1 _ _ (by omega) (by omega) | exact rfl)) (k := ?_)
    refine r_iload_n hm rfl (k := ?_)
    refine r_iald (hm := hm) (hf := rfl) (hs := (by first | assumption | exact (g1.1 _).trans rfl)) (kk := c) (hi := by omega) (hn := (by omega)) (hv := (by first | exact putI_eq | exact (putI_ne (by omega)).trans (by first | exact putI_eq | exact (putI_ne (by omega)).trans (by first | first | assumption | exact g1.2 _ _ _ rfl | exact M0 _ (by omega) | exact Q0 _ _ (by omega) (by omega) | exact (eN _ (by omega)).2.1 | exact (eN _ (by omega)).2.2.1 | exact eFp _ (by omega) | exact el.1 _ _ (by omega) (by omega) | exact rfl) | first | assumption | exact g1.2 _ _ _ rfl | exact M0 _ (by omega) | exact Q0 _ _ (by omega) (by omega) | exact (eN _ (by omega)).2.1 | exact (eN _ (by omega)).2.2.1 | exact eFp _ (by omega) | exact el.1 _ _ (by omega) (by omega) | exact rfl) | first | assumption | exact g1.2 _ _ _ rfl | exact M0 _ (by omega) | exact Q0 _ _ (by omega) (by omega) | exact (eN _ (by omega)).2.1 | exact (eN _ (by omega)).2.2.1 | exact eFp _ (by omega) | exact el.1 _ _ (by omega) (by omega) | exact rfl)) (k := ?_)
    refine r_icmp_ge (t := 273) hm rfl rfl (fun c37 => ?_) (fun c37 => ?_)
    · refine r_return hm rfl rfl (Nat.le_of_ble_eq_true rfl) (Nat.le_of_ble_eq_true rfl) ?_
      have ei : i = y.1 := by omega
      subst ei
      exact ⟨(S0_.mono (fun a k z => Or.inl z)).trans (T1.mono (fun a k z => Or.inr z)), eW, rfl⟩
    · have hi : i < y.1 := by omega
      have hit := hok.2.1 i hi
      unfold okIt at hit
      obtain ⟨ep, ep2⟩ := pcs_eq hok hi
      have en9 : (((y.2.1 0 i).toNat : Nat) : Int) = y.2.1 0 i := by omega
      have lr := nLen_rng hok hi
      have nEq : ∀ q, q < i → (y.2.1 0 q).toNat ≠ (y.2.1 0 i).toNat := fun q hq e => by
        have h9 := hok.2.1 q (by omega)
        unfold okIt at h9
        have := hok.2.2.2.1 q i (by omega) hi (by omega)
        omega
      refine r_aload_n hm rfl (k := ?_)
      refine r_getR (hm := hm) (hf := rfl) (hd := rfl) (hs := (by first | assumption | exact (g1.1 _).trans rfl)) (hv := (by first | exact putI_eq | exact (putI_ne (by omega)).trans (by first | exact putI_eq | exact (putI_ne (by omega)).trans (by first | first | assumption | exact g1.2 _ _ _ rfl | exact M0 _ (by omega) | exact Q0 _ _ (by omega) (by omega) | exact (eN _ (by omega)).2.1 | exact (eN _ (by omega)).2.2.1 | exact eFp _ (by omega) | exact el.1 _ _ (by omega) (by omega) | exact rfl) | first | assumption | exact g1.2 _ _ _ rfl | exact M0 _ (by omega) | exact Q0 _ _ (by omega) (by omega) | exact (eN _ (by omega)).2.1 | exact (eN _ (by omega)).2.2.1 | exact eFp _ (by omega) | exact el.1 _ _ (by omega) (by omega) | exact rfl) | first | assumption | exact g1.2 _ _ _ rfl | exact M0 _ (by omega) | exact Q0 _ _ (by omega) (by omega) | exact (eN _ (by omega)).2.1 | exact (eN _ (by omega)).2.2.1 | exact eFp _ (by omega) | exact el.1 _ _ (by omega) (by omega) | exact rfl)) (k := ?_)
      refine r_bipush hm rfl (k := ?_)
      refine r_iload_n hm rfl (k := ?_)
      refine r_imul hm rfl (hr := (by omega)) (k := ?_)
      refine r_iload_n hm rfl (k := ?_)
      refine r_iadd hm rfl (hr := (by omega)) (k := ?_)
      refine r_iald (hm := hm) (hf := rfl) (hs := (by first | assumption | exact (g1.1 _).trans rfl)) (kk := 60 * c + i) (hi := by omega) (hn := (by omega)) (hv := (by first | exact putI_eq | exact (putI_ne (by omega)).trans (by first | exact putI_eq | exact (putI_ne (by omega)).trans (by first | first | assumption | exact g1.2 _ _ _ rfl | exact M0 _ (by omega) | exact Q0 _ _ (by omega) (by omega) | exact (eN _ (by omega)).2.1 | exact (eN _ (by omega)).2.2.1 | exact eFp _ (by omega) | exact el.1 _ _ (by omega) (by omega) | exact rfl) | first | assumption | exact g1.2 _ _ _ rfl | exact M0 _ (by omega) | exact Q0 _ _ (by omega) (by omega) | exact (eN _ (by omega)).2.1 | exact (eN _ (by omega)).2.2.1 | exact eFp _ (by omega) | exact el.1 _ _ (by omega) (by omega) | exact rfl) | first | assumption | exact g1.2 _ _ _ rfl | exact M0 _ (by omega) | exact Q0 _ _ (by omega) (by omega) | exact (eN _ (by omega)).2.1 | exact (eN _ (by omega)).2.2.1 | exact eFp _ (by omega) | exact el.1 _ _ (by omega) (by omega) | exact rfl)) (k := ?_)
      refine r_istore_n hm rfl (k := ?_)
      refine r_aload_n hm rfl (k := ?_)
      refine r_getR (hm := hm) (hf := rfl) (hd := rfl) (hs := (by first | assumption | exact (g1.1 _).trans rfl)) (hv := (by first | exact putI_eq | exact (putI_ne (by omega)).trans (by first | exact putI_eq | exact (putI_ne (by omega)).trans (by first | first | assumption | exact g1.2 _ _ _ rfl | exact M0 _ (by omega) | exact Q0 _ _ (by omega) (by omega) | exact (eN _ (by omega)).2.1 | exact (eN _ (by omega)).2.2.1 | exact eFp _ (by omega) | exact el.1 _ _ (by omega) (by omega) | exact rfl) | first | assumption | exact g1.2 _ _ _ rfl | exact M0 _ (by omega) | exact Q0 _ _ (by omega) (by omega) | exact (eN _ (by omega)).2.1 | exact (eN _ (by omega)).2.2.1 | exact eFp _ (by omega) | exact el.1 _ _ (by omega) (by omega) | exact rfl) | first | assumption | exact g1.2 _ _ _ rfl | exact M0 _ (by omega) | exact Q0 _ _ (by omega) (by omega) | exact (eN _ (by omega)).2.1 | exact (eN _ (by omega)).2.2.1 | exact eFp _ (by omega) | exact el.1 _ _ (by omega) (by omega) | exact rfl)) (k := ?_)
      refine r_iload_n hm rfl (k := ?_)
      refine r_iload_n hm rfl (k := ?_)
      refine r_iast (hm := hm) (hf := rfl) (h28 := (by omega)) (hs := (by first | assumption | exact (g1.1 _).trans rfl)) (kk := (y.2.1 0 i).toNat) (hi := by omega) (hn := (by omega)) (k := ?_)
      refine r_aload_n hm rfl (k := ?_)
      refine r_getR (hm := hm) (hf := rfl) (hd := rfl) (hs := (by first | assumption | exact (g1.1 _).trans rfl)) (hv := (by first | exact putI_eq | exact (putI_ne (by omega)).trans (by first | exact putI_eq | exact (putI_ne (by omega)).trans (by first | first | assumption | exact g1.2 _ _ _ rfl | exact M0 _ (by omega) | exact Q0 _ _ (by omega) (by omega) | exact (eN _ (by omega)).2.1 | exact (eN _ (by omega)).2.2.1 | exact eFp _ (by omega) | exact el.1 _ _ (by omega) (by omega) | exact rfl) | first | assumption | exact g1.2 _ _ _ rfl | exact M0 _ (by omega) | exact Q0 _ _ (by omega) (by omega) | exact (eN _ (by omega)).2.1 | exact (eN _ (by omega)).2.2.1 | exact eFp _ (by omega) | exact el.1 _ _ (by omega) (by omega) | exact rfl) | first | assumption | exact g1.2 _ _ _ rfl | exact M0 _ (by omega) | exact Q0 _ _ (by omega) (by omega) | exact (eN _ (by omega)).2.1 | exact (eN _ (by omega)).2.2.1 | exact eFp _ (by omega) | exact el.1 _ _ (by omega) (by omega) | exact rfl)) (k := ?_)
      refine r_iload_n hm rfl (k := ?_)
      refine r_aload_n hm rfl (k := ?_)
      refine r_getR (hm := hm) (hf := rfl) (hd := rfl) (hs := (by first | assumption | exact (g1.1 _).trans rfl)) (hv := (by first | exact putI_eq | exact (putI_ne (by omega)).trans (by first | exact putI_eq | exact (putI_ne (by omega)).trans (by first | first | assumption | exact g1.2 _ _ _ rfl | exact M0 _ (by omega) | exact Q0 _ _ (by omega) (by omega) | exact (eN _ (by omega)).2.1 | exact (eN _ (by omega)).2.2.1 | exact eFp _ (by omega) | exact el.1 _ _ (by omega) (by omega) | exact rfl) | first | assumption | exact g1.2 _ _ _ rfl | exact M0 _ (by omega) | exact Q0 _ _ (by omega) (by omega) | exact (eN _ (by omega)).2.1 | exact (eN _ (by omega)).2.2.1 | exact eFp _ (by omega) | exact el.1 _ _ (by omega) (by omega) | exact rfl) | first | assumption | exact g1.2 _ _ _ rfl | exact M0 _ (by omega) | exact Q0 _ _ (by omega) (by omega) | exact (eN _ (by omega)).2.1 | exact (eN _ (by omega)).2.2.1 | exact eFp _ (by omega) | exact el.1 _ _ (by omega) (by omega) | exact rfl)) (k := ?_)
      refine r_iload_n hm rfl (k := ?_)
      refine r_iald (hm := hm) (hf := rfl) (hs := (by first | assumption | exact (g1.1 _).trans rfl)) (hi := rfl) (hn := (by omega)) (hv := (by first | exact putI_eq | exact (putI_ne (by omega)).trans (by first | exact putI_eq | exact (putI_ne (by omega)).trans (by first | first | assumption | exact g1.2 _ _ _ rfl | exact M0 _ (by omega) | exact Q0 _ _ (by omega) (by omega) | exact (eN _ (by omega)).2.1 | exact (eN _ (by omega)).2.2.1 | exact eFp _ (by omega) | exact el.1 _ _ (by omega) (by omega) | exact rfl) | first | assumption | exact g1.2 _ _ _ rfl | exact M0 _ (by omega) | exact Q0 _ _ (by omega) (by omega) | exact (eN _ (by omega)).2.1 | exact (eN _ (by omega)).2.2.1 | exact eFp _ (by omega) | exact el.1 _ _ (by omega) (by omega) | exact rfl) | first | assumption | exact g1.2 _ _ _ rfl | exact M0 _ (by omega) | exact Q0 _ _ (by omega) (by omega) | exact (eN _ (by omega)).2.1 | exact (eN _ (by omega)).2.2.1 | exact eFp _ (by omega) | exact el.1 _ _ (by omega) (by omega) | exact rfl)) (k := ?_)
      refine r_iast (hm := hm) (hf := rfl) (h28 := (by omega)) (hs := (by first | assumption | exact (g1.1 _).trans rfl)) (kk := (y.2.1 0 i).toNat) (hi := by omega) (hn := (by omega)) (k := ?_)
      refine RN.abs (fun h1 => Sm (fun a _ => 1118 ≤ a ∧ a ≤ 1124) h0 h1 ∧ (∀ q, q < i → Wd h1 y H q) ∧ (∀ n : Nat, n < 200 → (∀ q, q < i + 1 → y.2.1 0 q ≠ (n : Int)) → h1.2.1 1118 n = -1) ∧ h1.2.1 1118 (y.2.1 0 i).toNat = (i : Int) ∧ h1.2.1 1119 (y.2.1 0 i).toNat = nLen y i) ⟨Sm.put (Sm.put T1 (by omega)) (by omega), fun q hq => (eW.1 q hq).same (Sm.put (S := fun a k => k = (y.2.1 0 i).toNat ∧ (a = 1118 ∨ a = 1119)) (Sm.put Sm.refl (by omega)) (by omega)) (fun a k z z2 => by have ne := nEq q hq; unfold rgN at z2; omega), fun n hn hq => ?_, ?_, putI_eq⟩ (fun h1 H9 => ?_)
      · have := hq i (by omega)
        rw [putI_ne (by omega), putI_ne (by omega)]
        exact eW.2 n hn (fun q h9 => hq q (by omega))
      · rw [putI_ne (by omega)]; exact putI_eq
      clear g1 hc1 hR1 M0 M1 M2 M3 M4 Q0 Q1 Q2 S0 N0 N1 e36 eN el eFp T1 eW
      obtain ⟨T1, eW, eX, v1, v2⟩ := H9
      have g1 := T1.gg g0
      have hc1 := (T1.2.2 1085 12 (by omega)).trans y12
      have hR1 := T1.repM (fun a k z => by omega) hR0
      obtain ⟨M0, M1, M2, M3, M4, Q0, Q1, Q2, S0, N0, N1⟩ := hR1.use
      have e36 := (T1.2.2 1085 36 (by omega)).trans y36
      have eN := yN.keep T1 (fun a k z => by omega)
      have el := yl.same T1 (fun a k z => by omega)
      have eFp := fun q (hq : q < y.1) => (T1.2.2 1107 q (by omega)).trans (yP.2.2.2.2.2.1 q (by have := (psf_ok hok (ltR_ok (H := H) hok (fin y H)) hH).2.1 q hq; omega))
      refine r_iconst hm rfl (k := ?_)
      refine r_istore hm rfl (k := ?_)
      suffices LP : ∀ (d2 k : Nat) (h1 : Hp), k + d2 = 4 → Sm (fun a _ => 1118 ≤ a ∧ a ≤ 1124) h0 h1 → (∀ q, q < i → Wd h1 y H q) → (∀ n : Nat, n < 200 → (∀ q, q < i + 1 → y.2.1 0 q ≠ (n : Int)) → h1.2.1 1118 n = -1) → h1.2.1 1118 (y.2.1 0 i).toNat = (i : Int) → h1.2.1 1119 (y.2.1 0 i).toNat = nLen y i → (∀ k2 : Nat, k2 < k → (k2 : Int) < nLen y i → h1.2.1 1120 (4 * (y.2.1 0 i).toNat + k2) = nRow y i k2) → RN 223 74 [some (.inr (.inr (some 1085))), some (.inl (c : Int)), some (.inl (i : Int)), some (.inl (y.2.1 0 i)), some (.inl (k : Int)), z5] [] h1 0 0 (fun v h2 => Sm (fun a k => regM a k ∨ (1118 ≤ a ∧ a ≤ 1124)) h h2 ∧ Was h2 y H y.1 ∧ v = none) from LP 4 0 _ (by omega) T1 eW eX v1 v2 (fun k2 hk2 => absurd hk2 (Nat.not_lt_zero _))
      clear g1 hc1 hR1 M0 M1 M2 M3 M4 Q0 Q1 Q2 S0 N0 N1 e36 eN el eFp T1 eW eX v1 v2
      refine fun d2 => Nat.strongRecOn d2 (fun d2 ih2 => ?_)
      intro k h1 hd2 T1 eW eX v1 v2 eRw
      have g1 := T1.gg g0
      have hc1 := (T1.2.2 1085 12 (by omega)).trans y12
      have hR1 := T1.repM (fun a k z => by omega) hR0
      obtain ⟨M0, M1, M2, M3, M4, Q0, Q1, Q2, S0, N0, N1⟩ := hR1.use
      have e36 := (T1.2.2 1085 36 (by omega)).trans y36
      have eN := yN.keep T1 (fun a k z => by omega)
      have el := yl.same T1 (fun a k z => by omega)
      have eFp := fun q (hq : q < y.1) => (T1.2.2 1107 q (by omega)).trans (yP.2.2.2.2.2.1 q (by have := (psf_ok hok (ltR_ok (H := H) hok (fin y H)) hH).2.1 q hq; omega))
      refine r_iload hm rfl (k := ?_)
      refine r_iconst hm rfl (k := ?_)
      refine r_icmp_ge (t := 123) hm rfl rfl (fun c77 => ?_) (fun c77 => ?_)
      · refine r_aload_n hm rfl (k := ?_)
        refine r_getR (hm := hm) (hf := rfl) (hd := rfl) (hs := (by first | assumption | exact (g1.1 _).trans rfl)) (hv := (by first | exact putI_eq | exact (putI_ne (by omega)).trans (by first | exact putI_eq | exact (putI_ne (by omega)).trans (by first | first | assumption | exact g1.2 _ _ _ rfl | exact M0 _ (by omega) | exact Q0 _ _ (by omega) (by omega) | exact (eN _ (by omega)).2.1 | exact (eN _ (by omega)).2.2.1 | exact eFp _ (by omega) | exact el.1 _ _ (by omega) (by omega) | exact rfl) | first | assumption | exact g1.2 _ _ _ rfl | exact M0 _ (by omega) | exact Q0 _ _ (by omega) (by omega) | exact (eN _ (by omega)).2.1 | exact (eN _ (by omega)).2.2.1 | exact eFp _ (by omega) | exact el.1 _ _ (by omega) (by omega) | exact rfl) | first | assumption | exact g1.2 _ _ _ rfl | exact M0 _ (by omega) | exact Q0 _ _ (by omega) (by omega) | exact (eN _ (by omega)).2.1 | exact (eN _ (by omega)).2.2.1 | exact eFp _ (by omega) | exact el.1 _ _ (by omega) (by omega) | exact rfl)) (k := ?_)
        refine r_iload_n hm rfl (k := ?_)
        refine r_aload_n hm rfl (k := ?_)
        refine r_getR (hm := hm) (hf := rfl) (hd := rfl) (hs := (by first | assumption | exact (g1.1 _).trans rfl)) (hv := (by first | exact putI_eq | exact (putI_ne (by omega)).trans (by first | exact putI_eq | exact (putI_ne (by omega)).trans (by first | first | assumption | exact g1.2 _ _ _ rfl | exact M0 _ (by omega) | exact Q0 _ _ (by omega) (by omega) | exact (eN _ (by omega)).2.1 | exact (eN _ (by omega)).2.2.1 | exact eFp _ (by omega) | exact el.1 _ _ (by omega) (by omega) | exact rfl) | first | assumption | exact g1.2 _ _ _ rfl | exact M0 _ (by omega) | exact Q0 _ _ (by omega) (by omega) | exact (eN _ (by omega)).2.1 | exact (eN _ (by omega)).2.2.1 | exact eFp _ (by omega) | exact el.1 _ _ (by omega) (by omega) | exact rfl) | first | assumption | exact g1.2 _ _ _ rfl | exact M0 _ (by omega) | exact Q0 _ _ (by omega) (by omega) | exact (eN _ (by omega)).2.1 | exact (eN _ (by omega)).2.2.1 | exact eFp _ (by omega) | exact el.1 _ _ (by omega) (by omega) | exact rfl)) (k := ?_)
        refine r_iload_n hm rfl (k := ?_)
        refine r_iald (hm := hm) (hf := rfl) (hs := (by first | assumption | exact (g1.1 _).trans rfl)) (hi := rfl) (hn := (by omega)) (hv := (by first | exact putI_eq | exact (putI_ne (by omega)).trans (by first | exact putI_eq | exact (putI_ne (by omega)).trans (by first | first | assumption | exact g1.2 _ _ _ rfl | exact M0 _ (by omega) | exact Q0 _ _ (by omega) (by omega) | exact (eN _ (by omega)).2.1 | exact (eN _ (by omega)).2.2.1 | exact eFp _ (by omega) | exact el.1 _ _ (by omega) (by omega) | exact rfl) | first | assumption | exact g1.2 _ _ _ rfl | exact M0 _ (by omega) | exact Q0 _ _ (by omega) (by omega) | exact (eN _ (by omega)).2.1 | exact (eN _ (by omega)).2.2.1 | exact eFp _ (by omega) | exact el.1 _ _ (by omega) (by omega) | exact rfl) | first | assumption | exact g1.2 _ _ _ rfl | exact M0 _ (by omega) | exact Q0 _ _ (by omega) (by omega) | exact (eN _ (by omega)).2.1 | exact (eN _ (by omega)).2.2.1 | exact eFp _ (by omega) | exact el.1 _ _ (by omega) (by omega) | exact rfl)) (k := ?_)
        refine r_iast (hm := hm) (hf := rfl) (h28 := (by omega)) (hs := (by first | assumption | exact (g1.1 _).trans rfl)) (kk := (y.2.1 0 i).toNat) (hi := by omega) (hn := (by omega)) (k := ?_)
        refine r_aload_n hm rfl (k := ?_)
        refine r_getR (hm := hm) (hf := rfl) (hd := rfl) (hs := (by first | assumption | exact (g1.1 _).trans rfl)) (hv := (by first | exact putI_eq | exact (putI_ne (by omega)).trans (by first | exact putI_eq | exact (putI_ne (by omega)).trans (by first | first | assumption | exact g1.2 _ _ _ rfl | exact M0 _ (by omega) | exact Q0 _ _ (by omega) (by omega) | exact (eN _ (by omega)).2.1 | exact (eN _ (by omega)).2.2.1 | exact eFp _ (by omega) | exact el.1 _ _ (by omega) (by omega) | exact rfl) | first | assumption | exact g1.2 _ _ _ rfl | exact M0 _ (by omega) | exact Q0 _ _ (by omega) (by omega) | exact (eN _ (by omega)).2.1 | exact (eN _ (by omega)).2.2.1 | exact eFp _ (by omega) | exact el.1 _ _ (by omega) (by omega) | exact rfl) | first | assumption | exact g1.2 _ _ _ rfl | exact M0 _ (by omega) | exact Q0 _ _ (by omega) (by omega) | exact (eN _ (by omega)).2.1 | exact (eN _ (by omega)).2.2.1 | exact eFp _ (by omega) | exact el.1 _ _ (by omega) (by omega) | exact rfl)) (k := ?_)
        refine r_iload_n hm rfl (k := ?_)
        refine r_aload_n hm rfl (k := ?_)
        refine r_getR (hm := hm) (hf := rfl) (hd := rfl) (hs := (by first | assumption | exact (g1.1 _).trans rfl)) (hv := (by first | exact putI_eq | exact (putI_ne (by omega)).trans (by first | exact putI_eq | exact (putI_ne (by omega)).trans (by first | first | assumption | exact g1.2 _ _ _ rfl | exact M0 _ (by omega) | exact Q0 _ _ (by omega) (by omega) | exact (eN _ (by omega)).2.1 | exact (eN _ (by omega)).2.2.1 | exact eFp _ (by omega) | exact el.1 _ _ (by omega) (by omega) | exact rfl) | first | assumption | exact g1.2 _ _ _ rfl | exact M0 _ (by omega) | exact Q0 _ _ (by omega) (by omega) | exact (eN _ (by omega)).2.1 | exact (eN _ (by omega)).2.2.1 | exact eFp _ (by omega) | exact el.1 _ _ (by omega) (by omega) | exact rfl) | first | assumption | exact g1.2 _ _ _ rfl | exact M0 _ (by omega) | exact Q0 _ _ (by omega) (by omega) | exact (eN _ (by omega)).2.1 | exact (eN _ (by omega)).2.2.1 | exact eFp _ (by omega) | exact el.1 _ _ (by omega) (by omega) | exact rfl)) (k := ?_)
        refine r_iload_n hm rfl (k := ?_)
        refine r_iald (hm := hm) (hf := rfl) (hs := (by first | assumption | exact (g1.1 _).trans rfl)) (hi := rfl) (hn := (by omega)) (hv := (by first | exact putI_eq | exact (putI_ne (by omega)).trans (by first | exact putI_eq | exact (putI_ne (by omega)).trans (by first | first | assumption | exact g1.2 _ _ _ rfl | exact M0 _ (by omega) | exact Q0 _ _ (by omega) (by omega) | exact (eN _ (by omega)).2.1 | exact (eN _ (by omega)).2.2.1 | exact eFp _ (by omega) | exact el.1 _ _ (by omega) (by omega) | exact rfl) | first | assumption | exact g1.2 _ _ _ rfl | exact M0 _ (by omega) | exact Q0 _ _ (by omega) (by omega) | exact (eN _ (by omega)).2.1 | exact (eN _ (by omega)).2.2.1 | exact eFp _ (by omega) | exact el.1 _ _ (by omega) (by omega) | exact rfl) | first | assumption | exact g1.2 _ _ _ rfl | exact M0 _ (by omega) | exact Q0 _ _ (by omega) (by omega) | exact (eN _ (by omega)).2.1 | exact (eN _ (by omega)).2.2.1 | exact eFp _ (by omega) | exact el.1 _ _ (by omega) (by omega) | exact rfl)) (k := ?_)
        refine r_iast (hm := hm) (hf := rfl) (h28 := (by omega)) (hs := (by first | assumption | exact (g1.1 _).trans rfl)) (kk := (y.2.1 0 i).toNat) (hi := by omega) (hn := (by omega)) (k := ?_)
        refine RN.abs (fun h1 => Sm (fun a _ => 1118 ≤ a ∧ a ≤ 1124) h0 h1 ∧ (∀ q, q < i → Wd h1 y H q) ∧ (∀ n : Nat, n < 200 → (∀ q, q < i + 1 → y.2.1 0 q ≠ (n : Int)) → h1.2.1 1118 n = -1) ∧ h1.2.1 1118 (y.2.1 0 i).toNat = (i : Int) ∧ h1.2.1 1119 (y.2.1 0 i).toNat = nLen y i ∧ (∀ k2 : Nat, k2 < 4 → (k2 : Int) < nLen y i → h1.2.1 1120 (4 * (y.2.1 0 i).toNat + k2) = nRow y i k2) ∧ h1.2.1 1121 (y.2.1 0 i).toNat = nOwn y i ∧ h1.2.1 1122 (y.2.1 0 i).toNat = fpF y H i) ⟨Sm.put (Sm.put T1 (by omega)) (by omega), fun q hq => (eW q hq).same (Sm.put (S := fun a k => k = (y.2.1 0 i).toNat ∧ (a = 1121 ∨ a = 1122)) (Sm.put Sm.refl (by omega)) (by omega)) (fun a k z z2 => by have ne := nEq q hq; unfold rgN at z2; omega), fun n hn hq => (putI_ne (by omega)).trans ((putI_ne (by omega)).trans (eX n hn hq)), (putI_ne (by omega)).trans ((putI_ne (by omega)).trans v1), (putI_ne (by omega)).trans ((putI_ne (by omega)).trans v2), fun k2 hk2 hl2 => (putI_ne (by omega)).trans ((putI_ne (by omega)).trans (eRw k2 (by omega) hl2)), (putI_ne (by omega)).trans putI_eq, putI_eq⟩ (fun h1 H9 => ?_)
        clear g1 hc1 hR1 M0 M1 M2 M3 M4 Q0 Q1 Q2 S0 N0 N1 e36 eN el eFp T1 eW eX v1 v2 eRw
        obtain ⟨T1, eW, eX, v1, v2, eRw, v3, v4⟩ := H9
        have g1 := T1.gg g0
        have hc1 := (T1.2.2 1085 12 (by omega)).trans y12
        have hR1 := T1.repM (fun a k z => by omega) hR0
        obtain ⟨M0, M1, M2, M3, M4, Q0, Q1, Q2, S0, N0, N1⟩ := hR1.use
        have e36 := (T1.2.2 1085 36 (by omega)).trans y36
        have eN := yN.keep T1 (fun a k z => by omega)
        have el := yl.same T1 (fun a k z => by omega)
        have eFp := fun q (hq : q < y.1) => (T1.2.2 1107 q (by omega)).trans (yP.2.2.2.2.2.1 q (by have := (psf_ok hok (ltR_ok (H := H) hok (fin y H)) hH).2.1 q hq; omega))
        refine r_iconst hm rfl (k := ?_)
        refine r_istore hm rfl (k := ?_)
        suffices LP : ∀ (d2 k : Nat) (h1 : Hp) (z5 : Option Vl), k + d2 = 20 → Sm (fun a _ => 1118 ≤ a ∧ a ≤ 1124) h0 h1 → (∀ q, q < i → Wd h1 y H q) → (∀ n : Nat, n < 200 → (∀ q, q < i + 1 → y.2.1 0 q ≠ (n : Int)) → h1.2.1 1118 n = -1) → h1.2.1 1118 (y.2.1 0 i).toNat = (i : Int) → h1.2.1 1119 (y.2.1 0 i).toNat = nLen y i → (∀ k2 : Nat, k2 < 4 → (k2 : Int) < nLen y i → h1.2.1 1120 (4 * (y.2.1 0 i).toNat + k2) = nRow y i k2) → h1.2.1 1121 (y.2.1 0 i).toNat = nOwn y i → h1.2.1 1122 (y.2.1 0 i).toNat = fpF y H i → (∀ k2 : Nat, k2 < k → h1.2.1 1123 (20 * (y.2.1 0 i).toNat + k2) = (if k2 < pcs y i ∧ y.2.2.1 0 i k2 = 1 then ltF y H i k2 else 0) ∧ h1.2.1 1124 (20 * (y.2.1 0 i).toNat + k2) = (if k2 < pcs y i ∧ y.2.2.1 0 i k2 = 1 then nmn y i k2 else -2)) → RN 223 150 [some (.inr (.inr (some 1085))), some (.inl (c : Int)), some (.inl (i : Int)), some (.inl (y.2.1 0 i)), some (.inl (k : Int)), z5] [] h1 0 0 (fun v h2 => Sm (fun a k => regM a k ∨ (1118 ≤ a ∧ a ≤ 1124)) h h2 ∧ Was h2 y H y.1 ∧ v = none) from LP 20 0 _ _ (by omega) T1 eW eX v1 v2 eRw v3 v4 (fun k2 hk2 => absurd hk2 (Nat.not_lt_zero _))
        clear g1 hc1 hR1 M0 M1 M2 M3 M4 Q0 Q1 Q2 S0 N0 N1 e36 eN el eFp T1 eW eX v1 v2 eRw v3 v4 ih2
        refine fun d2 => Nat.strongRecOn d2 (fun d2 ih2 => ?_)
        intro k h1 z5 hd2 T1 eW eX v1 v2 eRw v3 v4 eD
        have g1 := T1.gg g0
        have hc1 := (T1.2.2 1085 12 (by omega)).trans y12
        have hR1 := T1.repM (fun a k z => by omega) hR0
        obtain ⟨M0, M1, M2, M3, M4, Q0, Q1, Q2, S0, N0, N1⟩ := hR1.use
        have e36 := (T1.2.2 1085 36 (by omega)).trans y36
        have eN := yN.keep T1 (fun a k z => by omega)
        have el := yl.same T1 (fun a k z => by omega)
        have eFp := fun q (hq : q < y.1) => (T1.2.2 1107 q (by omega)).trans (yP.2.2.2.2.2.1 q (by have := (psf_ok hok (ltR_ok (H := H) hok (fin y H)) hH).2.1 q hq; omega))
        refine r_iload hm rfl (k := ?_)
        refine r_bipush hm rfl (k := ?_)
        refine r_icmp_ge (t := 267) hm rfl rfl (fun c154 => ?_) (fun c154 => ?_)
        · refine r_iinc hm rfl (hr := (by omega)) (k := ?_)
          refine r_goto (t := 30) hm rfl (k := ?_)
          refine ih (d - 1) (by omega) (i + 1) _ _ _ _ (by omega) T1 ⟨fun q hq => ?_, eX⟩
          by_cases e2 : q = i
          · subst e2
            exact ⟨v1, v2, v3, v4, eRw, fun k2 hk2 => eD k2 (by omega)⟩
          · exact eW q (by omega)
        · refine r_iload hm rfl (k := ?_)
          refine r_aload_n hm rfl (k := ?_)
          refine r_iload_n hm rfl (k := ?_)
          refine r_callv (j2 := 181) hm rfl rfl rfl rfl rfl rfl (by first | assumption | exact (g1.1 _).trans rfl) (Nat.le_of_ble_eq_true rfl) (Nat.le_of_ble_eq_true rfl) rfl ⟨Nat.le_of_ble_eq_true rfl, Nat.le_of_ble_eq_true rfl, Nat.le_of_ble_eq_true rfl, Nat.le_of_ble_eq_true rfl, Nat.le_of_ble_eq_true rfl⟩ rfl (m_piecesOf g1 hc1 hc3 hR1 (i := i) (by omega)) (fun v9 h9 p9 => ?_)
          obtain ⟨e1, e2⟩ := p9
          subst e2
          replace e1 := e1.symm
          subst e1
          change RN 223 164 _ _ _ 0 0 _
          dsimp only [Option.toList, List.cons_append, List.nil_append]
          refine r_icmp_ge (t := 187) hm rfl rfl (fun c164 => ?_) (fun c164 => ?_)
          · refine r_iconst hm rfl (k := ?_)
            refine r_istore hm rfl (k := ?_)
            refine r_aload_n hm rfl (k := ?_)
            refine r_getR (hm := hm) (hf := rfl) (hd := rfl) (hs := (by first | assumption | exact (g1.1 _).trans rfl)) (hv := (by first | exact putI_eq | exact (putI_ne (by omega)).trans (by first | exact putI_eq | exact (putI_ne (by omega)).trans (by first | first | assumption | exact g1.2 _ _ _ rfl | exact M0 _ (by omega) | exact Q0 _ _ (by omega) (by omega) | exact (eN _ (by omega)).2.1 | exact (eN _ (by omega)).2.2.1 | exact eFp _ (by omega) | exact el.1 _ _ (by omega) (by omega) | exact rfl) | first | assumption | exact g1.2 _ _ _ rfl | exact M0 _ (by omega) | exact Q0 _ _ (by omega) (by omega) | exact (eN _ (by omega)).2.1 | exact (eN _ (by omega)).2.2.1 | exact eFp _ (by omega) | exact el.1 _ _ (by omega) (by omega) | exact rfl) | first | assumption | exact g1.2 _ _ _ rfl | exact M0 _ (by omega) | exact Q0 _ _ (by omega) (by omega) | exact (eN _ (by omega)).2.1 | exact (eN _ (by omega)).2.2.1 | exact eFp _ (by omega) | exact el.1 _ _ (by omega) (by omega) | exact rfl)) (k := ?_)
            refine r_bipush hm rfl (k := ?_)
            refine r_iload_n hm rfl (k := ?_)
            refine r_imul hm rfl (hr := (by omega)) (k := ?_)
            refine r_iload hm rfl (k := ?_)
            refine r_iadd hm rfl (hr := (by omega)) (k := ?_)
            refine r_iload hm rfl (k := ?_)
            refine r_if_eq (t := 230) hm rfl rfl (fun c203 => ?_) (fun c203 => ?_)
            · refine r_iconst hm rfl (k := ?_)
              refine r_iast (hm := hm) (hf := rfl) (h28 := (by omega)) (hs := (by first | assumption | exact (g1.1 _).trans rfl)) (kk := 20 * (y.2.1 0 i).toNat + k) (hi := by omega) (hn := (by omega)) (k := ?_)
              refine r_aload_n hm rfl (k := ?_)
              refine r_getR (hm := hm) (hf := rfl) (hd := rfl) (hs := (by first | assumption | exact (g1.1 _).trans rfl)) (hv := (by first | exact putI_eq | exact (putI_ne (by omega)).trans (by first | exact putI_eq | exact (putI_ne (by omega)).trans (by first | first | assumption | exact g1.2 _ _ _ rfl | exact M0 _ (by omega) | exact Q0 _ _ (by omega) (by omega) | exact (eN _ (by omega)).2.1 | exact (eN _ (by omega)).2.2.1 | exact eFp _ (by omega) | exact el.1 _ _ (by omega) (by omega) | exact rfl) | first | assumption | exact g1.2 _ _ _ rfl | exact M0 _ (by omega) | exact Q0 _ _ (by omega) (by omega) | exact (eN _ (by omega)).2.1 | exact (eN _ (by omega)).2.2.1 | exact eFp _ (by omega) | exact el.1 _ _ (by omega) (by omega) | exact rfl) | first | assumption | exact g1.2 _ _ _ rfl | exact M0 _ (by omega) | exact Q0 _ _ (by omega) (by omega) | exact (eN _ (by omega)).2.1 | exact (eN _ (by omega)).2.2.1 | exact eFp _ (by omega) | exact el.1 _ _ (by omega) (by omega) | exact rfl)) (k := ?_)
              refine r_bipush hm rfl (k := ?_)
              refine r_iload_n hm rfl (k := ?_)
              refine r_imul hm rfl (hr := (by omega)) (k := ?_)
              refine r_iload hm rfl (k := ?_)
              refine r_iadd hm rfl (hr := (by omega)) (k := ?_)
              refine r_iload hm rfl (k := ?_)
              refine r_if_eq (t := 258) hm rfl rfl (fun c245 => ?_) (fun c245 => ?_)
              · refine r_bipush hm rfl (k := ?_)
                refine r_iast (hm := hm) (hf := rfl) (h28 := (by omega)) (hs := (by first | assumption | exact (g1.1 _).trans rfl)) (kk := 20 * (y.2.1 0 i).toNat + k) (hi := by omega) (hn := (by omega)) (k := ?_)
                refine r_iinc hm rfl (hr := (by omega)) (k := ?_)
                refine r_goto (t := 150) hm rfl (k := ?_)
                refine ih2 (d2 - 1) (by omega) (k + 1) _ _ (by omega) (Sm.put (Sm.put T1 (by omega)) (by omega)) (fun q hq => (eW q hq).same (Sm.put (S := fun a k => (a = 1123 ∨ a = 1124) ∧ 20 * (y.2.1 0 i).toNat ≤ k ∧ k < 20 * (y.2.1 0 i).toNat + 20) (Sm.put Sm.refl (by omega)) (by omega)) (fun a k z z2 => by have ne := nEq q hq; unfold rgN at z2; omega)) (fun n hn hq => (putI_ne (by omega)).trans ((putI_ne (by omega)).trans (eX n hn hq))) ((putI_ne (by omega)).trans ((putI_ne (by omega)).trans v1)) ((putI_ne (by omega)).trans ((putI_ne (by omega)).trans v2)) (fun k2 hk2 hl2 => (putI_ne (by omega)).trans ((putI_ne (by omega)).trans (eRw k2 hk2 hl2))) ((putI_ne (by omega)).trans ((putI_ne (by omega)).trans v3)) ((putI_ne (by omega)).trans ((putI_ne (by omega)).trans v4)) (fun k2 hk2 => ?_)
                by_cases e2 : k2 = k
                · subst e2
                  rw [if_neg (by omega), if_neg (by omega)]
                  exact ⟨(putI_ne (by omega)).trans putI_eq, putI_eq⟩
                · rw [putI_ne (by omega), putI_ne (by omega), putI_ne (by omega), putI_ne (by omega)]; exact eD k2 (by omega)
              · exfalso; omega
            · exfalso; omega
          · refine r_aload_n hm rfl (k := ?_)
            refine r_getR (hm := hm) (hf := rfl) (hd := rfl) (hs := (by first | assumption | exact (g1.1 _).trans rfl)) (hv := (by first | exact putI_eq | exact (putI_ne (by omega)).trans (by first | exact putI_eq | exact (putI_ne (by omega)).trans (by first | first | assumption | exact g1.2 _ _ _ rfl | exact M0 _ (by omega) | exact Q0 _ _ (by omega) (by omega) | exact (eN _ (by omega)).2.1 | exact (eN _ (by omega)).2.2.1 | exact eFp _ (by omega) | exact el.1 _ _ (by omega) (by omega) | exact rfl) | first | assumption | exact g1.2 _ _ _ rfl | exact M0 _ (by omega) | exact Q0 _ _ (by omega) (by omega) | exact (eN _ (by omega)).2.1 | exact (eN _ (by omega)).2.2.1 | exact eFp _ (by omega) | exact el.1 _ _ (by omega) (by omega) | exact rfl) | first | assumption | exact g1.2 _ _ _ rfl | exact M0 _ (by omega) | exact Q0 _ _ (by omega) (by omega) | exact (eN _ (by omega)).2.1 | exact (eN _ (by omega)).2.2.1 | exact eFp _ (by omega) | exact el.1 _ _ (by omega) (by omega) | exact rfl)) (k := ?_)
            refine r_aload_n hm rfl (k := ?_)
            refine r_iload_n hm rfl (k := ?_)
            refine r_iload hm rfl (k := ?_)
            refine r_callv (j2 := 186) hm rfl rfl rfl rfl rfl rfl (by first | assumption | exact (g1.1 _).trans rfl) (Nat.le_of_ble_eq_true rfl) (Nat.le_of_ble_eq_true rfl) rfl ⟨Nat.le_of_ble_eq_true rfl, Nat.le_of_ble_eq_true rfl, Nat.le_of_ble_eq_true rfl, Nat.le_of_ble_eq_true rfl, Nat.le_of_ble_eq_true rfl⟩ rfl (m_place g1 hc1 hc3 hR1 (i := i) (k := k) (by omega) (by omega)) (fun v9 h9 p9 => ?_)
            obtain ⟨e1, e2⟩ := p9
            subst e2
            replace e1 := e1.symm
            subst e1
            change RN 223 178 _ _ _ 0 0 _
            dsimp only [Option.toList, List.cons_append, List.nil_append]
            refine r_iald (hm := hm) (hf := rfl) (hs := (by first | assumption | exact (g1.1 _).trans rfl)) (hi := rfl) (hn := (by omega)) (hv := (by first | exact putI_eq | exact (putI_ne (by omega)).trans (by first | exact putI_eq | exact (putI_ne (by omega)).trans (by first | first | assumption | exact g1.2 _ _ _ rfl | exact M0 _ (by omega) | exact Q0 _ _ (by omega) (by omega) | exact (eN _ (by omega)).2.1 | exact (eN _ (by omega)).2.2.1 | exact eFp _ (by omega) | exact el.1 _ _ (by omega) (by omega) | exact rfl) | first | assumption | exact g1.2 _ _ _ rfl | exact M0 _ (by omega) | exact Q0 _ _ (by omega) (by omega) | exact (eN _ (by omega)).2.1 | exact (eN _ (by omega)).2.2.1 | exact eFp _ (by omega) | exact el.1 _ _ (by omega) (by omega) | exact rfl) | first | assumption | exact g1.2 _ _ _ rfl | exact M0 _ (by omega) | exact Q0 _ _ (by omega) (by omega) | exact (eN _ (by omega)).2.1 | exact (eN _ (by omega)).2.2.1 | exact eFp _ (by omega) | exact el.1 _ _ (by omega) (by omega) | exact rfl)) (k := ?_)
            refine r_iconst hm rfl (k := ?_)
            refine r_icmp_ne (t := 187) hm rfl rfl (fun c180 => ?_) (fun c180 => ?_)
            · refine r_iconst hm rfl (k := ?_)
              refine r_istore hm rfl (k := ?_)
              refine r_aload_n hm rfl (k := ?_)
              refine r_getR (hm := hm) (hf := rfl) (hd := rfl) (hs := (by first | assumption | exact (g1.1 _).trans rfl)) (hv := (by first | exact putI_eq | exact (putI_ne (by omega)).trans (by first | exact putI_eq | exact (putI_ne (by omega)).trans (by first | first | assumption | exact g1.2 _ _ _ rfl | exact M0 _ (by omega) | exact Q0 _ _ (by omega) (by omega) | exact (eN _ (by omega)).2.1 | exact (eN _ (by omega)).2.2.1 | exact eFp _ (by omega) | exact el.1 _ _ (by omega) (by omega) | exact rfl) | first | assumption | exact g1.2 _ _ _ rfl | exact M0 _ (by omega) | exact Q0 _ _ (by omega) (by omega) | exact (eN _ (by omega)).2.1 | exact (eN _ (by omega)).2.2.1 | exact eFp _ (by omega) | exact el.1 _ _ (by omega) (by omega) | exact rfl) | first | assumption | exact g1.2 _ _ _ rfl | exact M0 _ (by omega) | exact Q0 _ _ (by omega) (by omega) | exact (eN _ (by omega)).2.1 | exact (eN _ (by omega)).2.2.1 | exact eFp _ (by omega) | exact el.1 _ _ (by omega) (by omega) | exact rfl)) (k := ?_)
              refine r_bipush hm rfl (k := ?_)
              refine r_iload_n hm rfl (k := ?_)
              refine r_imul hm rfl (hr := (by omega)) (k := ?_)
              refine r_iload hm rfl (k := ?_)
              refine r_iadd hm rfl (hr := (by omega)) (k := ?_)
              refine r_iload hm rfl (k := ?_)
              refine r_if_eq (t := 230) hm rfl rfl (fun c203 => ?_) (fun c203 => ?_)
              · refine r_iconst hm rfl (k := ?_)
                refine r_iast (hm := hm) (hf := rfl) (h28 := (by omega)) (hs := (by first | assumption | exact (g1.1 _).trans rfl)) (kk := 20 * (y.2.1 0 i).toNat + k) (hi := by omega) (hn := (by omega)) (k := ?_)
                refine r_aload_n hm rfl (k := ?_)
                refine r_getR (hm := hm) (hf := rfl) (hd := rfl) (hs := (by first | assumption | exact (g1.1 _).trans rfl)) (hv := (by first | exact putI_eq | exact (putI_ne (by omega)).trans (by first | exact putI_eq | exact (putI_ne (by omega)).trans (by first | first | assumption | exact g1.2 _ _ _ rfl | exact M0 _ (by omega) | exact Q0 _ _ (by omega) (by omega) | exact (eN _ (by omega)).2.1 | exact (eN _ (by omega)).2.2.1 | exact eFp _ (by omega) | exact el.1 _ _ (by omega) (by omega) | exact rfl) | first | assumption | exact g1.2 _ _ _ rfl | exact M0 _ (by omega) | exact Q0 _ _ (by omega) (by omega) | exact (eN _ (by omega)).2.1 | exact (eN _ (by omega)).2.2.1 | exact eFp _ (by omega) | exact el.1 _ _ (by omega) (by omega) | exact rfl) | first | assumption | exact g1.2 _ _ _ rfl | exact M0 _ (by omega) | exact Q0 _ _ (by omega) (by omega) | exact (eN _ (by omega)).2.1 | exact (eN _ (by omega)).2.2.1 | exact eFp _ (by omega) | exact el.1 _ _ (by omega) (by omega) | exact rfl)) (k := ?_)
                refine r_bipush hm rfl (k := ?_)
                refine r_iload_n hm rfl (k := ?_)
                refine r_imul hm rfl (hr := (by omega)) (k := ?_)
                refine r_iload hm rfl (k := ?_)
                refine r_iadd hm rfl (hr := (by omega)) (k := ?_)
                refine r_iload hm rfl (k := ?_)
                refine r_if_eq (t := 258) hm rfl rfl (fun c245 => ?_) (fun c245 => ?_)
                · refine r_bipush hm rfl (k := ?_)
                  refine r_iast (hm := hm) (hf := rfl) (h28 := (by omega)) (hs := (by first | assumption | exact (g1.1 _).trans rfl)) (kk := 20 * (y.2.1 0 i).toNat + k) (hi := by omega) (hn := (by omega)) (k := ?_)
                  refine r_iinc hm rfl (hr := (by omega)) (k := ?_)
                  refine r_goto (t := 150) hm rfl (k := ?_)
                  refine ih2 (d2 - 1) (by omega) (k + 1) _ _ (by omega) (Sm.put (Sm.put T1 (by omega)) (by omega)) (fun q hq => (eW q hq).same (Sm.put (S := fun a k => (a = 1123 ∨ a = 1124) ∧ 20 * (y.2.1 0 i).toNat ≤ k ∧ k < 20 * (y.2.1 0 i).toNat + 20) (Sm.put Sm.refl (by omega)) (by omega)) (fun a k z z2 => by have ne := nEq q hq; unfold rgN at z2; omega)) (fun n hn hq => (putI_ne (by omega)).trans ((putI_ne (by omega)).trans (eX n hn hq))) ((putI_ne (by omega)).trans ((putI_ne (by omega)).trans v1)) ((putI_ne (by omega)).trans ((putI_ne (by omega)).trans v2)) (fun k2 hk2 hl2 => (putI_ne (by omega)).trans ((putI_ne (by omega)).trans (eRw k2 hk2 hl2))) ((putI_ne (by omega)).trans ((putI_ne (by omega)).trans v3)) ((putI_ne (by omega)).trans ((putI_ne (by omega)).trans v4)) (fun k2 hk2 => ?_)
                  by_cases e2 : k2 = k
                  · subst e2
                    rw [if_neg (by omega), if_neg (by omega)]
                    exact ⟨(putI_ne (by omega)).trans putI_eq, putI_eq⟩
                  · rw [putI_ne (by omega), putI_ne (by omega), putI_ne (by omega), putI_ne (by omega)]; exact eD k2 (by omega)
                · exfalso; omega
              · exfalso; omega
            · refine r_iconst hm rfl (k := ?_)
              refine r_goto (t := 188) hm rfl (k := ?_)
              refine r_istore hm rfl (k := ?_)
              refine r_aload_n hm rfl (k := ?_)
              refine r_getR (hm := hm) (hf := rfl) (hd := rfl) (hs := (by first | assumption | exact (g1.1 _).trans rfl)) (hv := (by first | exact putI_eq | exact (putI_ne (by omega)).trans (by first | exact putI_eq | exact (putI_ne (by omega)).trans (by first | first | assumption | exact g1.2 _ _ _ rfl | exact M0 _ (by omega) | exact Q0 _ _ (by omega) (by omega) | exact (eN _ (by omega)).2.1 | exact (eN _ (by omega)).2.2.1 | exact eFp _ (by omega) | exact el.1 _ _ (by omega) (by omega) | exact rfl) | first | assumption | exact g1.2 _ _ _ rfl | exact M0 _ (by omega) | exact Q0 _ _ (by omega) (by omega) | exact (eN _ (by omega)).2.1 | exact (eN _ (by omega)).2.2.1 | exact eFp _ (by omega) | exact el.1 _ _ (by omega) (by omega) | exact rfl) | first | assumption | exact g1.2 _ _ _ rfl | exact M0 _ (by omega) | exact Q0 _ _ (by omega) (by omega) | exact (eN _ (by omega)).2.1 | exact (eN _ (by omega)).2.2.1 | exact eFp _ (by omega) | exact el.1 _ _ (by omega) (by omega) | exact rfl)) (k := ?_)
              refine r_bipush hm rfl (k := ?_)
              refine r_iload_n hm rfl (k := ?_)
              refine r_imul hm rfl (hr := (by omega)) (k := ?_)
              refine r_iload hm rfl (k := ?_)
              refine r_iadd hm rfl (hr := (by omega)) (k := ?_)
              refine r_iload hm rfl (k := ?_)
              refine r_if_eq (t := 230) hm rfl rfl (fun c203 => ?_) (fun c203 => ?_)
              · exfalso; omega
              · refine r_aload_n hm rfl (k := ?_)
                refine r_getR (hm := hm) (hf := rfl) (hd := rfl) (hs := (by first | assumption | exact (g1.1 _).trans rfl)) (hv := (by first | exact putI_eq | exact (putI_ne (by omega)).trans (by first | exact putI_eq | exact (putI_ne (by omega)).trans (by first | first | assumption | exact g1.2 _ _ _ rfl | exact M0 _ (by omega) | exact Q0 _ _ (by omega) (by omega) | exact (eN _ (by omega)).2.1 | exact (eN _ (by omega)).2.2.1 | exact eFp _ (by omega) | exact el.1 _ _ (by omega) (by omega) | exact rfl) | first | assumption | exact g1.2 _ _ _ rfl | exact M0 _ (by omega) | exact Q0 _ _ (by omega) (by omega) | exact (eN _ (by omega)).2.1 | exact (eN _ (by omega)).2.2.1 | exact eFp _ (by omega) | exact el.1 _ _ (by omega) (by omega) | exact rfl) | first | assumption | exact g1.2 _ _ _ rfl | exact M0 _ (by omega) | exact Q0 _ _ (by omega) (by omega) | exact (eN _ (by omega)).2.1 | exact (eN _ (by omega)).2.2.1 | exact eFp _ (by omega) | exact el.1 _ _ (by omega) (by omega) | exact rfl)) (k := ?_)
                refine r_sipush hm rfl (k := ?_)
                refine r_aload_n hm rfl (k := ?_)
                refine r_getI (hm := hm) (hf := rfl) (hd := rfl) (hs := (by first | assumption | exact (g1.1 _).trans rfl)) (hv := (by first | exact putI_eq | exact (putI_ne (by omega)).trans (by first | exact putI_eq | exact (putI_ne (by omega)).trans (by first | first | assumption | exact g1.2 _ _ _ rfl | exact M0 _ (by omega) | exact Q0 _ _ (by omega) (by omega) | exact (eN _ (by omega)).2.1 | exact (eN _ (by omega)).2.2.1 | exact eFp _ (by omega) | exact el.1 _ _ (by omega) (by omega) | exact rfl) | first | assumption | exact g1.2 _ _ _ rfl | exact M0 _ (by omega) | exact Q0 _ _ (by omega) (by omega) | exact (eN _ (by omega)).2.1 | exact (eN _ (by omega)).2.2.1 | exact eFp _ (by omega) | exact el.1 _ _ (by omega) (by omega) | exact rfl) | first | assumption | exact g1.2 _ _ _ rfl | exact M0 _ (by omega) | exact Q0 _ _ (by omega) (by omega) | exact (eN _ (by omega)).2.1 | exact (eN _ (by omega)).2.2.1 | exact eFp _ (by omega) | exact el.1 _ _ (by omega) (by omega) | exact rfl)) (k := ?_)
                refine r_imul hm rfl (hr := (by omega)) (k := ?_)
                refine r_bipush hm rfl (k := ?_)
                refine r_iload_n hm rfl (k := ?_)
                refine r_imul hm rfl (hr := (by omega)) (k := ?_)
                refine r_iadd hm rfl (hr := (by omega)) (k := ?_)
                refine r_iload hm rfl (k := ?_)
                refine r_iadd hm rfl (hr := (by omega)) (k := ?_)
                refine r_iald (hm := hm) (hf := rfl) (hs := (by first | assumption | exact (g1.1 _).trans rfl)) (kk := 1200 * fin y H + 20 * i + k) (hi := by omega) (hn := (by omega)) (hv := (by first | exact putI_eq | exact (putI_ne (by omega)).trans (by first | exact putI_eq | exact (putI_ne (by omega)).trans (by first | first | assumption | exact g1.2 _ _ _ rfl | exact M0 _ (by omega) | exact Q0 _ _ (by omega) (by omega) | exact (eN _ (by omega)).2.1 | exact (eN _ (by omega)).2.2.1 | exact eFp _ (by omega) | exact el.1 _ _ (by omega) (by omega) | exact rfl) | first | assumption | exact g1.2 _ _ _ rfl | exact M0 _ (by omega) | exact Q0 _ _ (by omega) (by omega) | exact (eN _ (by omega)).2.1 | exact (eN _ (by omega)).2.2.1 | exact eFp _ (by omega) | exact el.1 _ _ (by omega) (by omega) | exact rfl) | first | assumption | exact g1.2 _ _ _ rfl | exact M0 _ (by omega) | exact Q0 _ _ (by omega) (by omega) | exact (eN _ (by omega)).2.1 | exact (eN _ (by omega)).2.2.1 | exact eFp _ (by omega) | exact el.1 _ _ (by omega) (by omega) | exact rfl)) (k := ?_)
                refine r_goto (t := 231) hm rfl (k := ?_)
                refine r_iast (hm := hm) (hf := rfl) (h28 := (by omega)) (hs := (by first | assumption | exact (g1.1 _).trans rfl)) (kk := 20 * (y.2.1 0 i).toNat + k) (hi := by omega) (hn := (by omega)) (k := ?_)
                refine r_aload_n hm rfl (k := ?_)
                refine r_getR (hm := hm) (hf := rfl) (hd := rfl) (hs := (by first | assumption | exact (g1.1 _).trans rfl)) (hv := (by first | exact putI_eq | exact (putI_ne (by omega)).trans (by first | exact putI_eq | exact (putI_ne (by omega)).trans (by first | first | assumption | exact g1.2 _ _ _ rfl | exact M0 _ (by omega) | exact Q0 _ _ (by omega) (by omega) | exact (eN _ (by omega)).2.1 | exact (eN _ (by omega)).2.2.1 | exact eFp _ (by omega) | exact el.1 _ _ (by omega) (by omega) | exact rfl) | first | assumption | exact g1.2 _ _ _ rfl | exact M0 _ (by omega) | exact Q0 _ _ (by omega) (by omega) | exact (eN _ (by omega)).2.1 | exact (eN _ (by omega)).2.2.1 | exact eFp _ (by omega) | exact el.1 _ _ (by omega) (by omega) | exact rfl) | first | assumption | exact g1.2 _ _ _ rfl | exact M0 _ (by omega) | exact Q0 _ _ (by omega) (by omega) | exact (eN _ (by omega)).2.1 | exact (eN _ (by omega)).2.2.1 | exact eFp _ (by omega) | exact el.1 _ _ (by omega) (by omega) | exact rfl)) (k := ?_)
                refine r_bipush hm rfl (k := ?_)
                refine r_iload_n hm rfl (k := ?_)
                refine r_imul hm rfl (hr := (by omega)) (k := ?_)
                refine r_iload hm rfl (k := ?_)
                refine r_iadd hm rfl (hr := (by omega)) (k := ?_)
                refine r_iload hm rfl (k := ?_)
                refine r_if_eq (t := 258) hm rfl rfl (fun c245 => ?_) (fun c245 => ?_)
                · exfalso; omega
                · have T2 := Sm.put (v := ltR y H (fin y H) i k) (a := 1123) (i := 20 * (y.2.1 0 i).toNat + k) T1 (by omega)
                  have qNm := m_nameMeant (T2.gg g0) ((T2.2.2 1085 12 (by omega)).trans y12) hc3 (T2.repM (fun a k z => by omega) hR0) hok (i := i) (k := k) hi (by omega) (by omega)
                  refine r_aload_n hm rfl (k := ?_)
                  refine r_iload_n hm rfl (k := ?_)
                  refine r_iload hm rfl (k := ?_)
                  refine r_callv (j2 := 224) hm rfl rfl rfl rfl rfl rfl (by first | assumption | exact (g1.1 _).trans rfl) (Nat.le_of_ble_eq_true rfl) (Nat.le_of_ble_eq_true rfl) rfl ⟨Nat.le_of_ble_eq_true rfl, Nat.le_of_ble_eq_true rfl, Nat.le_of_ble_eq_true rfl, Nat.le_of_ble_eq_true rfl, Nat.le_of_ble_eq_true rfl⟩ rfl (qNm) (fun v9 h9 p9 => ?_)
                  obtain ⟨e1, e2⟩ := p9
                  subst e2
                  replace e1 := e1.symm
                  subst e1
                  change RN 223 255 _ _ _ 0 0 _
                  dsimp only [Option.toList, List.cons_append, List.nil_append]
                  refine r_goto (t := 260) hm rfl (k := ?_)
                  refine r_iast (hm := hm) (hf := rfl) (h28 := (by omega)) (hs := (by first | assumption | exact (g1.1 _).trans rfl)) (kk := 20 * (y.2.1 0 i).toNat + k) (hi := by omega) (hn := (by omega)) (k := ?_)
                  refine r_iinc hm rfl (hr := (by omega)) (k := ?_)
                  refine r_goto (t := 150) hm rfl (k := ?_)
                  refine ih2 (d2 - 1) (by omega) (k + 1) _ _ (by omega) (Sm.put (Sm.put T1 (by omega)) (by omega)) (fun q hq => (eW q hq).same (Sm.put (S := fun a k => (a = 1123 ∨ a = 1124) ∧ 20 * (y.2.1 0 i).toNat ≤ k ∧ k < 20 * (y.2.1 0 i).toNat + 20) (Sm.put Sm.refl (by omega)) (by omega)) (fun a k z z2 => by have ne := nEq q hq; unfold rgN at z2; omega)) (fun n hn hq => (putI_ne (by omega)).trans ((putI_ne (by omega)).trans (eX n hn hq))) ((putI_ne (by omega)).trans ((putI_ne (by omega)).trans v1)) ((putI_ne (by omega)).trans ((putI_ne (by omega)).trans v2)) (fun k2 hk2 hl2 => (putI_ne (by omega)).trans ((putI_ne (by omega)).trans (eRw k2 hk2 hl2))) ((putI_ne (by omega)).trans ((putI_ne (by omega)).trans v3)) ((putI_ne (by omega)).trans ((putI_ne (by omega)).trans v4)) (fun k2 hk2 => ?_)
                  by_cases e2 : k2 = k
                  · subst e2
                    rw [if_pos (by omega), if_pos (by omega)]
                    exact ⟨(putI_ne (by omega)).trans putI_eq, putI_eq⟩
                  · rw [putI_ne (by omega), putI_ne (by omega), putI_ne (by omega), putI_ne (by omega)]; exact eD k2 (by omega)
      · refine r_aload_n hm rfl (k := ?_)
        refine r_getR (hm := hm) (hf := rfl) (hd := rfl) (hs := (by first | assumption | exact (g1.1 _).trans rfl)) (hv := (by first | exact putI_eq | exact (putI_ne (by omega)).trans (by first | exact putI_eq | exact (putI_ne (by omega)).trans (by first | first | assumption | exact g1.2 _ _ _ rfl | exact M0 _ (by omega) | exact Q0 _ _ (by omega) (by omega) | exact (eN _ (by omega)).2.1 | exact (eN _ (by omega)).2.2.1 | exact eFp _ (by omega) | exact el.1 _ _ (by omega) (by omega) | exact rfl) | first | assumption | exact g1.2 _ _ _ rfl | exact M0 _ (by omega) | exact Q0 _ _ (by omega) (by omega) | exact (eN _ (by omega)).2.1 | exact (eN _ (by omega)).2.2.1 | exact eFp _ (by omega) | exact el.1 _ _ (by omega) (by omega) | exact rfl) | first | assumption | exact g1.2 _ _ _ rfl | exact M0 _ (by omega) | exact Q0 _ _ (by omega) (by omega) | exact (eN _ (by omega)).2.1 | exact (eN _ (by omega)).2.2.1 | exact eFp _ (by omega) | exact el.1 _ _ (by omega) (by omega) | exact rfl)) (k := ?_)
        refine r_iconst hm rfl (k := ?_)
        refine r_iload_n hm rfl (k := ?_)
        refine r_imul hm rfl (hr := (by omega)) (k := ?_)
        refine r_iload hm rfl (k := ?_)
        refine r_iadd hm rfl (hr := (by omega)) (k := ?_)
        refine r_iload hm rfl (k := ?_)
        refine r_aload_n hm rfl (k := ?_)
        refine r_getR (hm := hm) (hf := rfl) (hd := rfl) (hs := (by first | assumption | exact (g1.1 _).trans rfl)) (hv := (by first | exact putI_eq | exact (putI_ne (by omega)).trans (by first | exact putI_eq | exact (putI_ne (by omega)).trans (by first | first | assumption | exact g1.2 _ _ _ rfl | exact M0 _ (by omega) | exact Q0 _ _ (by omega) (by omega) | exact (eN _ (by omega)).2.1 | exact (eN _ (by omega)).2.2.1 | exact eFp _ (by omega) | exact el.1 _ _ (by omega) (by omega) | exact rfl) | first | assumption | exact g1.2 _ _ _ rfl | exact M0 _ (by omega) | exact Q0 _ _ (by omega) (by omega) | exact (eN _ (by omega)).2.1 | exact (eN _ (by omega)).2.2.1 | exact eFp _ (by omega) | exact el.1 _ _ (by omega) (by omega) | exact rfl) | first | assumption | exact g1.2 _ _ _ rfl | exact M0 _ (by omega) | exact Q0 _ _ (by omega) (by omega) | exact (eN _ (by omega)).2.1 | exact (eN _ (by omega)).2.2.1 | exact eFp _ (by omega) | exact el.1 _ _ (by omega) (by omega) | exact rfl)) (k := ?_)
        refine r_iload_n hm rfl (k := ?_)
        refine r_iald (hm := hm) (hf := rfl) (hs := (by first | assumption | exact (g1.1 _).trans rfl)) (hi := rfl) (hn := (by omega)) (hv := (by first | exact putI_eq | exact (putI_ne (by omega)).trans (by first | exact putI_eq | exact (putI_ne (by omega)).trans (by first | first | assumption | exact g1.2 _ _ _ rfl | exact M0 _ (by omega) | exact Q0 _ _ (by omega) (by omega) | exact (eN _ (by omega)).2.1 | exact (eN _ (by omega)).2.2.1 | exact eFp _ (by omega) | exact el.1 _ _ (by omega) (by omega) | exact rfl) | first | assumption | exact g1.2 _ _ _ rfl | exact M0 _ (by omega) | exact Q0 _ _ (by omega) (by omega) | exact (eN _ (by omega)).2.1 | exact (eN _ (by omega)).2.2.1 | exact eFp _ (by omega) | exact el.1 _ _ (by omega) (by omega) | exact rfl) | first | assumption | exact g1.2 _ _ _ rfl | exact M0 _ (by omega) | exact Q0 _ _ (by omega) (by omega) | exact (eN _ (by omega)).2.1 | exact (eN _ (by omega)).2.2.1 | exact eFp _ (by omega) | exact el.1 _ _ (by omega) (by omega) | exact rfl)) (k := ?_)
        refine r_icmp_ge (t := 115) hm rfl rfl (fun c98 => ?_) (fun c98 => ?_)
        · refine r_iconst hm rfl (k := ?_)
          refine r_iast (hm := hm) (hf := rfl) (h28 := (by omega)) (hs := (by first | assumption | exact (g1.1 _).trans rfl)) (kk := 4 * (y.2.1 0 i).toNat + k) (hi := by omega) (hn := (by omega)) (k := ?_)
          refine r_iinc hm rfl (hr := (by omega)) (k := ?_)
          refine r_goto (t := 74) hm rfl (k := ?_)
          refine ih2 (d2 - 1) (by omega) (k + 1) _ (by omega) (Sm.put T1 (by omega)) (fun q hq => (eW q hq).same (Sm.put (S := fun a k => a = 1120 ∧ 4 * (y.2.1 0 i).toNat ≤ k ∧ k < 4 * (y.2.1 0 i).toNat + 4) Sm.refl (by omega)) (fun a k z z2 => by have ne := nEq q hq; unfold rgN at z2; omega)) (fun n hn hq => (putI_ne (by omega)).trans (eX n hn hq)) ((putI_ne (by omega)).trans v1) ((putI_ne (by omega)).trans v2) (fun k2 hk2 hl2 => ?_)
          by_cases e2 : k2 = k
          · subst e2
            rw [putI_eq]
            exfalso; omega
          · rw [putI_ne (by omega)]; exact eRw k2 (by omega) hl2
        · refine r_aload_n hm rfl (k := ?_)
          refine r_getR (hm := hm) (hf := rfl) (hd := rfl) (hs := (by first | assumption | exact (g1.1 _).trans rfl)) (hv := (by first | exact putI_eq | exact (putI_ne (by omega)).trans (by first | exact putI_eq | exact (putI_ne (by omega)).trans (by first | first | assumption | exact g1.2 _ _ _ rfl | exact M0 _ (by omega) | exact Q0 _ _ (by omega) (by omega) | exact (eN _ (by omega)).2.1 | exact (eN _ (by omega)).2.2.1 | exact eFp _ (by omega) | exact el.1 _ _ (by omega) (by omega) | exact rfl) | first | assumption | exact g1.2 _ _ _ rfl | exact M0 _ (by omega) | exact Q0 _ _ (by omega) (by omega) | exact (eN _ (by omega)).2.1 | exact (eN _ (by omega)).2.2.1 | exact eFp _ (by omega) | exact el.1 _ _ (by omega) (by omega) | exact rfl) | first | assumption | exact g1.2 _ _ _ rfl | exact M0 _ (by omega) | exact Q0 _ _ (by omega) (by omega) | exact (eN _ (by omega)).2.1 | exact (eN _ (by omega)).2.2.1 | exact eFp _ (by omega) | exact el.1 _ _ (by omega) (by omega) | exact rfl)) (k := ?_)
          refine r_iconst hm rfl (k := ?_)
          refine r_iload_n hm rfl (k := ?_)
          refine r_imul hm rfl (hr := (by omega)) (k := ?_)
          refine r_iload hm rfl (k := ?_)
          refine r_iadd hm rfl (hr := (by omega)) (k := ?_)
          refine r_iald (hm := hm) (hf := rfl) (hs := (by first | assumption | exact (g1.1 _).trans rfl)) (kk := 4 * i + k) (hi := by omega) (hn := (by omega)) (hv := (by first | exact putI_eq | exact (putI_ne (by omega)).trans (by first | exact putI_eq | exact (putI_ne (by omega)).trans (by first | first | assumption | exact g1.2 _ _ _ rfl | exact M0 _ (by omega) | exact Q0 _ _ (by omega) (by omega) | exact (eN _ (by omega)).2.1 | exact (eN _ (by omega)).2.2.1 | exact eFp _ (by omega) | exact el.1 _ _ (by omega) (by omega) | exact rfl) | first | assumption | exact g1.2 _ _ _ rfl | exact M0 _ (by omega) | exact Q0 _ _ (by omega) (by omega) | exact (eN _ (by omega)).2.1 | exact (eN _ (by omega)).2.2.1 | exact eFp _ (by omega) | exact el.1 _ _ (by omega) (by omega) | exact rfl) | first | assumption | exact g1.2 _ _ _ rfl | exact M0 _ (by omega) | exact Q0 _ _ (by omega) (by omega) | exact (eN _ (by omega)).2.1 | exact (eN _ (by omega)).2.2.1 | exact eFp _ (by omega) | exact el.1 _ _ (by omega) (by omega) | exact rfl)) (k := ?_)
          refine r_goto (t := 116) hm rfl (k := ?_)
          refine r_iast (hm := hm) (hf := rfl) (h28 := (by omega)) (hs := (by first | assumption | exact (g1.1 _).trans rfl)) (kk := 4 * (y.2.1 0 i).toNat + k) (hi := by omega) (hn := (by omega)) (k := ?_)
          refine r_iinc hm rfl (hr := (by omega)) (k := ?_)
          refine r_goto (t := 74) hm rfl (k := ?_)
          refine ih2 (d2 - 1) (by omega) (k + 1) _ (by omega) (Sm.put T1 (by omega)) (fun q hq => (eW q hq).same (Sm.put (S := fun a k => a = 1120 ∧ 4 * (y.2.1 0 i).toNat ≤ k ∧ k < 4 * (y.2.1 0 i).toNat + 4) Sm.refl (by omega)) (fun a k z z2 => by have ne := nEq q hq; unfold rgN at z2; omega)) (fun n hn hq => (putI_ne (by omega)).trans (eX n hn hq)) ((putI_ne (by omega)).trans v1) ((putI_ne (by omega)).trans v2) (fun k2 hk2 hl2 => ?_)
          by_cases e2 : k2 = k
          · subst e2
            rw [putI_eq]
            exact (eN i hi).2.2.2.2 k2 (by omega) hl2
          · rw [putI_ne (by omega)]; exact eRw k2 (by omega) hl2
  · refine r_aload_n hm rfl (k := ?_)
    refine r_getR (hm := hm) (hf := rfl) (hd := rfl) (hs := (by first | assumption | exact (g1.1 _).trans rfl)) (hv := (by first | exact putI_eq | exact (putI_ne (by omega)).trans (by first | exact putI_eq | exact (putI_ne (by omega)).trans (by first | first | assumption | exact g1.2 _ _ _ rfl | exact M0 _ (by omega) | exact Q0 _ _ (by omega) (by omega) | exact (eN _ (by omega)).2.1 | exact (eN _ (by omega)).2.2.1 | exact eFp _ (by omega) | exact el.1 _ _ (by omega) (by omega) | exact rfl) | first | assumption | exact g1.2 _ _ _ rfl | exact M0 _ (by omega) | exact Q0 _ _ (by omega) (by omega) | exact (eN _ (by omega)).2.1 | exact (eN _ (by omega)).2.2.1 | exact eFp _ (by omega) | exact el.1 _ _ (by omega) (by omega) | exact rfl) | first | assumption | exact g1.2 _ _ _ rfl | exact M0 _ (by omega) | exact Q0 _ _ (by omega) (by omega) | exact (eN _ (by omega)).2.1 | exact (eN _ (by omega)).2.2.1 | exact eFp _ (by omega) | exact el.1 _ _ (by omega) (by omega) | exact rfl)) (k := ?_)
    refine r_iload_n hm rfl (k := ?_)
    refine r_iconst hm rfl (k := ?_)
    refine r_iast (hm := hm) (hf := rfl) (h28 := (by omega)) (hs := (by first | assumption | exact (g1.1 _).trans rfl)) (hi := rfl) (hn := (by omega)) (k := ?_)
    refine r_iinc hm rfl (hr := (by omega)) (k := ?_)
    refine r_goto (t := 8) hm rfl (k := ?_)
    exact ih (d - 1) (by omega) (k + 1) _ (by omega) (Sm.put T1 (by omega)) (fun n hn => if e : n = k then (by subst e; exact putI_eq) else (by rw [putI_ne (by omega)]; exact eM n (by omega)))
