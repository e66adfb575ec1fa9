/-! keep and back -/
theorem GG.ver {L : Nat} {h : Hp} (g : GG L h) {v : Nat} (hv : v < 3) : h.2.2.1 273 v = some (353 + 244 * v) := by
  have : v = 0 ∨ v = 1 ∨ v = 2 := by omega
  rcases this with rfl | rfl | rfl <;> exact g.2 _ _ _ rfl
theorem isT_ver {v : Nat} (hv : v < 3) : isT (353 + 244 * v) := by
  have : v = 0 ∨ v = 1 ∨ v = 2 := by omega
  rcases this with rfl | rfl | rfl
  · right; left; rfl
  · right; right; left; rfl
  · right; right; right; rfl
set_option maxRecDepth 8000 in
theorem c_keep {L : Nat} {h : Hp} {S : St} (I : InvC L h S) (ok : okS S) {vI : Int} : RN 118 0 [some (.inr (.inr (some (28)))), some (.inl vI)] [] h 0 0 (fun v h2 => InvC L h2 (oKeep S vI) ∧ FxC h h2 ∧ v = some (.inl (aKeep S vI))) := by
  have hm : mrec 118 = some nM118 := rfl
  obtain ⟨g, C, hR, hV, hK, hG, hSt, hL, hB, hFl⟩ := id I
  have hok := ok.1
  have ht : isT 29 := Or.inl rfl
  obtain ⟨T1, T2, T3, T4, T5, T6, T7⟩ := g.tx ht
  obtain ⟨I0, I1, I2, I3, I4, J0, J1, J2, F0, F1, F2, F3, F4, P0, P1, P2⟩ := hR.use g ht
  obtain ⟨R1, R2, R3, R4, R5, R6, R7⟩ := id hR
  have n60 := hok.1
  have g1 := g
  refine r_iload_n hm rfl (k := ?_)
  refine r_if_lt (t := 9) hm rfl rfl (fun c1 => ?_) (fun c1 => ?_)
  · refine r_sipush hm rfl (k := ?_)
    refine r_ireturn hm rfl rfl (by rfl) (Nat.le_of_ble_eq_true rfl) (Nat.le_of_ble_eq_true rfl) ?_
    unfold oKeep aKeep
    rw [if_neg (by omega), if_neg (by omega)]
    exact ⟨I, FxC.refl, rfl⟩
  · refine r_iload_n hm rfl (k := ?_)
    refine r_iconst hm rfl (k := ?_)
    refine r_icmp_lt (t := 13) hm rfl rfl (fun c6 => ?_) (fun c6 => ?_)
    · obtain ⟨q, rfl⟩ := Int.eq_ofNat_of_zero_le (show 0 ≤ vI by omega)
      have TV := (g.tx (isT_ver (v := q) (by omega))).1
      refine r_aload_n hm rfl (k := ?_)
      refine r_getR (hm := hm) (hf := rfl) (hd := rfl) (hs := (by first | assumption | exact (g1.1 _).trans rfl | exact TV)) (hv := (by first | assumption | exact g1.2 _ _ _ rfl | exact g1.ver (by omega) | exact (putI_ne (by omega)).trans ((SA.2.2 _ _ (by omega)).trans R1))) (k := ?_)
      refine r_iload_n hm rfl (k := ?_)
      refine r_aald (hm := hm) (hf := rfl) (hs := (by first | assumption | exact (g1.1 _).trans rfl | exact TV)) (hkd := by decide) (hi := rfl) (hn := (by omega)) (hv := (by first | assumption | exact g1.2 _ _ _ rfl | exact g1.ver (by omega) | exact (putI_ne (by omega)).trans ((SA.2.2 _ _ (by omega)).trans R1))) (k := ?_)
      refine r_aload_n hm rfl (k := ?_)
      refine r_getR (hm := hm) (hf := rfl) (hd := rfl) (hs := (by first | assumption | exact (g1.1 _).trans rfl | exact TV)) (hv := (by first | assumption | exact g1.2 _ _ _ rfl | exact g1.ver (by omega) | exact (putI_ne (by omega)).trans ((SA.2.2 _ _ (by omega)).trans R1))) (k := ?_)
      refine r_callv (j2 := 119) hm rfl rfl rfl rfl rfl rfl (by first | assumption | exact (g1.1 _).trans rfl | exact TV) (Nat.le_of_ble_eq_true rfl) (Nat.le_of_ble_eq_true rfl) rfl ⟨Nat.le_of_ble_eq_true rfl, Nat.le_of_ble_eq_true rfl, Nat.le_of_ble_eq_true rfl, Nat.le_of_ble_eq_true rfl, Nat.le_of_ble_eq_true rfl⟩ rfl (c_become g (isT_ver (v := q) (by omega)) ht (by omega) ((hV q (by omega)).2 : RepQ h _ _) hR hok) (fun v9 hA p9 => ?_)
      obtain ⟨SA, RA, e1⟩ := p9
      subst e1
      replace g1 := SA.gg g
      change RN 118 26 _ _ _ 0 0 _
      dsimp only [Option.toList, List.nil_append]
      refine r_aload_n hm rfl (k := ?_)
      refine r_getR (hm := hm) (hf := rfl) (hd := rfl) (hs := (by first | assumption | exact (g1.1 _).trans rfl | exact TV)) (hv := (by first | assumption | exact g1.2 _ _ _ rfl | exact g1.ver (by omega) | exact (putI_ne (by omega)).trans ((SA.2.2 _ _ (by omega)).trans R1))) (k := ?_)
      refine r_iload_n hm rfl (k := ?_)
      refine r_iconst hm rfl (k := ?_)
      refine r_bast (hm := hm) (hf := rfl) (hz := by omega) (h28 := (by omega)) (hs := (by first | assumption | exact (g1.1 _).trans rfl | exact TV)) (kk := q) (hi := by omega) (hn := (by omega)) (k := ?_)
      refine r_aload_n hm rfl (k := ?_)
      refine r_getR (hm := hm) (hf := rfl) (hd := rfl) (hs := (by first | assumption | exact (g1.1 _).trans rfl | exact TV)) (hv := (by first | assumption | exact g1.2 _ _ _ rfl | exact g1.ver (by omega) | exact (putI_ne (by omega)).trans ((SA.2.2 _ _ (by omega)).trans R1))) (k := ?_)
      refine r_getI (hm := hm) (hf := rfl) (hd := rfl) (hs := (by first | assumption | exact (g1.1 _).trans rfl | exact TV)) (hv := (by first | assumption | exact g1.2 _ _ _ rfl | exact g1.ver (by omega) | exact (putI_ne (by omega)).trans ((SA.2.2 _ _ (by omega)).trans R1))) (k := ?_)
      refine r_ireturn hm rfl rfl (by rfl) (Nat.le_of_ble_eq_true rfl) (Nat.le_of_ble_eq_true rfl) ?_
      unfold oKeep aKeep
      rw [if_pos (by omega), if_pos (by omega), Int.toNat_natCast]
      have eI : ∀ a k, ¬ (353 + 244 * q ≤ a ∧ a < 353 + 244 * q + 244) → ¬ (a = 274 ∧ k = q) → (putI hA 274 q 1).2.1 a k = h.2.1 a k := fun a k e e2 => (putI_ne (by omega)).trans (SA.2.2 a k e)
      have eR : ∀ a k, (putI hA 274 q 1).2.2.1 a k = h.2.2.1 a k := fun a k => by show hA.2.2.1 a k = _; rw [SA.2.1]
      refine ⟨⟨⟨g1.1, g1.2⟩, C.fr (fun a k e => eR a k) (fun a k e => eI a k (by omega) (by omega)), hR.fr (fun i => eR _ _) (fun a k e1 e2 => eI a k (by omega) (by omega)), fun u hu => ?_, fun u hu => ?_, (eI _ _ (by omega) (by omega)).trans hG, ?_, (eI _ _ (by omega) (by omega)).trans hL, fun k hk => (eI _ _ (by omega) (by omega)).trans (hB k hk), (eI _ _ (by omega) (by omega)).trans hFl⟩, fun a k e => eI a k (by omega) (by omega), rfl⟩
      · show RepC _ (353 + 244 * u) (upf S.2.1 q S.1 u)
        by_cases eu : u = q
        · rw [eu, upf_eq]
          exact RA.fr (fun _ => rfl) (fun a k e1 e2 => putI_ne (by omega))
        · rw [upf_ne eu]
          exact (hV u hu).fr (fun i => eR _ _) (fun a k e1 e2 => eI a k (by omega) (by omega))
      · show _ = upf S.2.2.1 q 1 u
        by_cases eu : u = q
        · rw [eu, upf_eq]; exact putI_eq
        · rw [upf_ne eu]; exact (eI _ _ (by omega) (by omega)).trans (hK u hu)
      · rw [eI _ _ (by omega) (by omega)]
        rcases hSt with e | ⟨e, e2⟩
        · exact Or.inl e
        · exact Or.inr ⟨e, e2.fr (eR _ _) (fun a k e1 e2 => eI a k (by omega) (by omega))⟩
    · refine r_sipush hm rfl (k := ?_)
      refine r_ireturn hm rfl rfl (by rfl) (Nat.le_of_ble_eq_true rfl) (Nat.le_of_ble_eq_true rfl) ?_
      unfold oKeep aKeep
      rw [if_neg (by omega), if_neg (by omega)]
      exact ⟨I, FxC.refl, rfl⟩
theorem c_isKept {L : Nat} {h : Hp} {S : St} (I : InvC L h S) (ok : okS S) {vI : Int} : RN 123 0 [some (.inr (.inr (some (28)))), some (.inl vI)] [] h 0 0 (fun v h2 => h2 = h ∧ v = some (.inl (if (0 ≤ vI ∧ vI ≤ 2) ∧ S.2.2.1 vI.toNat = 1 then 1 else 0))) := by
  have hm : mrec 123 = some nM123 := rfl
  obtain ⟨g, C, hR, hV, hK, hG, hSt, hL, hB, hFl⟩ := id I
  have hok := ok.1
  have ht : isT 29 := Or.inl rfl
  obtain ⟨T1, T2, T3, T4, T5, T6, T7⟩ := g.tx ht
  obtain ⟨I0, I1, I2, I3, I4, J0, J1, J2, F0, F1, F2, F3, F4, P0, P1, P2⟩ := hR.use g ht
  obtain ⟨R1, R2, R3, R4, R5, R6, R7⟩ := id hR
  have n60 := hok.1
  have g1 := g
  refine r_iload_n hm rfl (k := ?_)
  refine r_if_lt (t := 22) hm rfl rfl (fun c1 => ?_) (fun c1 => ?_)
  · refine r_iconst hm rfl (k := ?_)
    refine r_ireturn hm rfl rfl (by first | rfl | decide) (Nat.le_of_ble_eq_true rfl) (Nat.le_of_ble_eq_true rfl) ?_
    exact ⟨rfl, by first | (rw [if_pos (by omega)]; done) | (rw [if_neg (by omega)]; done)⟩
  · refine r_iload_n hm rfl (k := ?_)
    refine r_iconst hm rfl (k := ?_)
    refine r_icmp_ge (t := 22) hm rfl rfl (fun c6 => ?_) (fun c6 => ?_)
    · refine r_iconst hm rfl (k := ?_)
      refine r_ireturn hm rfl rfl (by first | rfl | decide) (Nat.le_of_ble_eq_true rfl) (Nat.le_of_ble_eq_true rfl) ?_
      exact ⟨rfl, by first | (rw [if_pos (by omega)]; done) | (rw [if_neg (by omega)]; done)⟩
    · have hk01 := ok.2.2.1 vI.toNat (by omega)
      refine r_aload_n hm rfl (k := ?_)
      refine r_getR (hm := hm) (hf := rfl) (hd := rfl) (hs := (by first | assumption | exact (g1.1 _).trans rfl | exact I1 _ (by omega) | exact I2 _ (by omega) | exact I3 _ (by omega) | exact I4 _ (by omega))) (hv := (by first | assumption | exact g1.2 _ _ _ rfl | exact hK _ (by omega))) (k := ?_)
      refine r_iload_n hm rfl (k := ?_)
      refine r_bald (hm := hm) (hf := rfl) (hs := (by first | assumption | exact (g1.1 _).trans rfl | exact I1 _ (by omega) | exact I2 _ (by omega) | exact I3 _ (by omega) | exact I4 _ (by omega))) (hkd := by decide) (kk := vI.toNat) (hi := by omega) (hn := (by omega)) (hv := (by first | assumption | exact g1.2 _ _ _ rfl | exact hK _ (by omega))) (k := ?_)
      refine r_if_eq (t := 22) hm rfl rfl (fun c15 => ?_) (fun c15 => ?_)
      · refine r_iconst hm rfl (k := ?_)
        refine r_ireturn hm rfl rfl (by first | rfl | decide) (Nat.le_of_ble_eq_true rfl) (Nat.le_of_ble_eq_true rfl) ?_
        exact ⟨rfl, by first | (rw [if_pos (by omega)]; done) | (rw [if_neg (by omega)]; done)⟩
      · refine r_iconst hm rfl (k := ?_)
        refine r_goto (t := 23) hm rfl (k := ?_)
        refine r_ireturn hm rfl rfl (by first | rfl | decide) (Nat.le_of_ble_eq_true rfl) (Nat.le_of_ble_eq_true rfl) ?_
        exact ⟨rfl, by first | (rw [if_pos (by omega)]; done) | (rw [if_neg (by omega)]; done)⟩
set_option maxRecDepth 8000 in
theorem c_back {L : Nat} {h : Hp} {S : St} (I : InvC L h S) (ok : okS S) {vI : Int} : RN 122 0 [some (.inr (.inr (some (28)))), some (.inl vI)] [] h 0 0 (fun v h2 => InvC L h2 (oBack S vI) ∧ FxC h h2 ∧ v = some (.inl (aBack S vI))) := by
  have hm : mrec 122 = some nM122 := rfl
  obtain ⟨g, C, hR, hV, hK, hG, hSt, hL, hB, hFl⟩ := id I
  have hok := ok.1
  have ht : isT 29 := Or.inl rfl
  obtain ⟨T1, T2, T3, T4, T5, T6, T7⟩ := g.tx ht
  obtain ⟨I0, I1, I2, I3, I4, J0, J1, J2, F0, F1, F2, F3, F4, P0, P1, P2⟩ := hR.use g ht
  obtain ⟨R1, R2, R3, R4, R5, R6, R7⟩ := id hR
  have n60 := hok.1
  have g1 := g
  refine r_aload_n hm rfl (k := ?_)
  refine r_iload_n hm rfl (k := ?_)
  refine r_callv (j2 := 123) hm rfl rfl rfl rfl rfl rfl (by first | assumption | exact (g1.1 _).trans rfl | exact I1 _ (by omega) | exact I2 _ (by omega) | exact I3 _ (by omega) | exact I4 _ (by omega)) (Nat.le_of_ble_eq_true rfl) (Nat.le_of_ble_eq_true rfl) rfl ⟨Nat.le_of_ble_eq_true rfl, Nat.le_of_ble_eq_true rfl, Nat.le_of_ble_eq_true rfl, Nat.le_of_ble_eq_true rfl, Nat.le_of_ble_eq_true rfl⟩ rfl (c_isKept I ok) (fun v9 h9 p9 => ?_)
  obtain ⟨e1, e2⟩ := p9
  subst e2
  replace e1 := e1.symm
  subst e1
  obtain ⟨b9, eb9, hb9⟩ := ite01 (p := (0 ≤ vI ∧ vI ≤ 2) ∧ S.2.2.1 vI.toNat = 1)
  rw [eb9]
  change RN 122 5 _ _ _ 0 0 _
  dsimp only [Option.toList, List.cons_append, List.nil_append]
  refine r_if_ne (t := 12) hm rfl rfl (fun c5 => ?_) (fun c5 => ?_)
  · obtain ⟨q, rfl⟩ := Int.eq_ofNat_of_zero_le (show 0 ≤ vI by omega)
    refine r_aload_n hm rfl (k := ?_)
    refine r_getR (hm := hm) (hf := rfl) (hd := rfl) (hs := (by first | assumption | exact (g1.1 _).trans rfl | exact I1 _ (by omega) | exact I2 _ (by omega) | exact I3 _ (by omega) | exact I4 _ (by omega))) (hv := (by first | assumption | exact g1.2 _ _ _ rfl | exact g1.ver (by omega) | exact (putI_ne (by omega)).trans RA.1)) (k := ?_)
    refine r_aload_n hm rfl (k := ?_)
    refine r_getR (hm := hm) (hf := rfl) (hd := rfl) (hs := (by first | assumption | exact (g1.1 _).trans rfl | exact I1 _ (by omega) | exact I2 _ (by omega) | exact I3 _ (by omega) | exact I4 _ (by omega))) (hv := (by first | assumption | exact g1.2 _ _ _ rfl | exact g1.ver (by omega) | exact (putI_ne (by omega)).trans RA.1)) (k := ?_)
    refine r_iload_n hm rfl (k := ?_)
    refine r_aald (hm := hm) (hf := rfl) (hs := (by first | assumption | exact (g1.1 _).trans rfl | exact I1 _ (by omega) | exact I2 _ (by omega) | exact I3 _ (by omega) | exact I4 _ (by omega))) (hkd := by decide) (hi := rfl) (hn := (by omega)) (hv := (by first | assumption | exact g1.2 _ _ _ rfl | exact g1.ver (by omega) | exact (putI_ne (by omega)).trans RA.1)) (k := ?_)
    refine r_callv (j2 := 119) hm rfl rfl rfl rfl rfl rfl (by first | assumption | exact (g1.1 _).trans rfl | exact I1 _ (by omega) | exact I2 _ (by omega) | exact I3 _ (by omega) | exact I4 _ (by omega)) (Nat.le_of_ble_eq_true rfl) (Nat.le_of_ble_eq_true rfl) rfl ⟨Nat.le_of_ble_eq_true rfl, Nat.le_of_ble_eq_true rfl, Nat.le_of_ble_eq_true rfl, Nat.le_of_ble_eq_true rfl, Nat.le_of_ble_eq_true rfl⟩ rfl (c_become g ht (isT_ver (v := q) (by omega)) (by omega) (hR.2 : RepQ h _ _) (hV q (by omega)) (ok.2.1 q (by omega))) (fun v9 hA p9 => ?_)
    obtain ⟨SA, RA, e1⟩ := p9
    subst e1
    replace g1 := SA.gg g
    change RN 122 25 _ _ _ 0 0 _
    dsimp only [Option.toList, List.nil_append]
    refine r_aload_n hm rfl (k := ?_)
    refine r_iconst hm rfl (k := ?_)
    refine r_putI (hm := hm) (hf := rfl) (hd := rfl) (hs := (by first | assumption | exact (g1.1 _).trans rfl | exact I1 _ (by omega) | exact I2 _ (by omega) | exact I3 _ (by omega) | exact I4 _ (by omega))) (hfin := Or.inl rfl) (hz := fun _ => by omega) (k := ?_)
    refine r_aload_n hm rfl (k := ?_)
    refine r_getR (hm := hm) (hf := rfl) (hd := rfl) (hs := (by first | assumption | exact (g1.1 _).trans rfl | exact I1 _ (by omega) | exact I2 _ (by omega) | exact I3 _ (by omega) | exact I4 _ (by omega))) (hv := (by first | assumption | exact g1.2 _ _ _ rfl | exact g1.ver (by omega) | exact (putI_ne (by omega)).trans RA.1)) (k := ?_)
    refine r_getI (hm := hm) (hf := rfl) (hd := rfl) (hs := (by first | assumption | exact (g1.1 _).trans rfl | exact I1 _ (by omega) | exact I2 _ (by omega) | exact I3 _ (by omega) | exact I4 _ (by omega))) (hv := (by first | assumption | exact g1.2 _ _ _ rfl | exact g1.ver (by omega) | exact (putI_ne (by omega)).trans RA.1)) (k := ?_)
    refine r_ireturn hm rfl rfl (by rfl) (Nat.le_of_ble_eq_true rfl) (Nat.le_of_ble_eq_true rfl) ?_
    unfold oBack aBack
    simp only [Int.toNat_natCast] at hb9 ⊢
    rw [if_pos (by omega), if_pos (by omega)]
    refine ⟨I.mut ⟨g1.1, g1.2⟩ (fun a k e => by show hA.2.2.1 a k = _; rw [SA.2.1]) (fun a k e => (putI_ne (by omega)).trans (SA.2.2 a k (by omega))) (RA.fr (fun _ => rfl) (fun a k e1 e2 => putI_ne (by omega))) ((putI_ne (by omega)).trans ((SA.2.2 _ _ (by omega)).trans hG)) putI_eq, fun a k e => (putI_ne (by omega)).trans (SA.2.2 a k (by omega)), rfl⟩
  · refine r_sipush hm rfl (k := ?_)
    refine r_ireturn hm rfl rfl (by rfl) (Nat.le_of_ble_eq_true rfl) (Nat.le_of_ble_eq_true rfl) ?_
    unfold oBack aBack
    rw [if_neg (by omega), if_neg (by omega)]
    exact ⟨I, FxC.refl, rfl⟩
theorem m_isSlot {h : Hp} {vI : Int} (hv0 : inI vI) : RN 219 0 [some (.inl vI)] [] h 0 0 (fun v h2 => h2 = h ∧ v = some (.inl (if 0 ≤ vI ∧ vI ≤ 2 then 1 else 0))) := by
  have hm : mrec 219 = some nM219 := rfl
  refine r_iload_n hm rfl (k := ?_)
  refine r_i2l hm rfl (k := ?_)
  refine r_lconst hm rfl (k := ?_)
  refine r_ldc2 hm rfl (hd := rfl) (k := ?_)
  refine r_calls (j2 := 162) hm rfl rfl rfl rfl rfl rfl (Nat.le_of_ble_eq_true rfl) (Nat.le_of_ble_eq_true rfl) rfl ⟨Nat.le_of_ble_eq_true rfl, Nat.le_of_ble_eq_true rfl, Nat.le_of_ble_eq_true rfl, Nat.le_of_ble_eq_true rfl, Nat.le_of_ble_eq_true rfl⟩ rfl (m_in (z := vI) (a := 0) (b := 2) (zL_t hv0) rfl rfl) (fun v9 h9 p9 => ?_)
  obtain ⟨e1, e2⟩ := p9
  subst e2
  replace e1 := e1.symm
  subst e1
  change RN 219 9 _ _ _ 0 0 _
  dsimp only [Option.toList, List.cons_append, List.nil_append]
  refine r_ireturn hm rfl rfl (by split <;> rfl) (Nat.le_of_ble_eq_true rfl) (Nat.le_of_ble_eq_true rfl) ?_
  exact ⟨rfl, rfl⟩
set_option maxRecDepth 8000 in
theorem m_copySlot {L : Nat} {h : Hp} {fr to : Nat} {x : Tx} (g : GG L h) (hR : RepM h fr x) (hok : okTx x) (hf : fr ≤ 3) (hto : to ≤ 3) (hne : fr ≠ to) : RN 220 0 [some (.inr (.inr (some 1085))), some (.inl (fr : Int)), some (.inl (to : Int)), none] [] h 0 0 (fun v h2 => Sm (fun a k => (a = 1086 ∧ k = to) ∨ (1088 ≤ a ∧ a ≤ 1092 ∧ 60 * to ≤ k ∧ k < 60 * to + 60) ∨ (1093 ≤ a ∧ a ≤ 1095 ∧ 1200 * to ≤ k ∧ k < 1200 * to + 1200) ∨ (a = 1096 ∧ 13 * to ≤ k ∧ k < 13 * to + 13)) h h2 ∧ RepM h2 to x ∧ v = none) := by
  have hm : mrec 220 = some nM220 := rfl
  obtain ⟨M0, M1, M2, M3, M4, Q0, Q1, Q2, S0, N0, N1⟩ := hR.use
  have n60 := hok.1
  have g1 := g
  refine r_aload_n hm rfl (k := ?_)
  refine r_getR (hm := hm) (hf := rfl) (hd := rfl) (hs := (by first | assumption | exact (g1.1 _).trans rfl)) (hv := (by first | assumption | exact g1.2 _ _ _ rfl | exact eN | exact N0 | exact rfl)) (k := ?_)
  refine r_iload_n hm rfl (k := ?_)
  refine r_aload_n hm rfl (k := ?_)
  refine r_getR (hm := hm) (hf := rfl) (hd := rfl) (hs := (by first | assumption | exact (g1.1 _).trans rfl)) (hv := (by first | assumption | exact g1.2 _ _ _ rfl | exact eN | exact N0 | exact rfl)) (k := ?_)
  refine r_iload_n hm rfl (k := ?_)
  refine r_iald (hm := hm) (hf := rfl) (hs := (by first | assumption | exact (g1.1 _).trans rfl)) (kk := fr) (hi := by omega) (hn := (by omega)) (hv := (by first | assumption | exact g1.2 _ _ _ rfl | exact eN | exact N0 | exact rfl)) (k := ?_)
  refine r_iast (hm := hm) (hf := rfl) (h28 := (by omega)) (hs := (by first | assumption | exact (g1.1 _).trans rfl)) (kk := to) (hi := by omega) (hn := (by omega)) (k := ?_)
  refine r_iconst hm rfl (k := ?_)
  refine r_istore_n hm rfl (k := ?_)
  suffices LP : ∀ (d i : Nat) (h1 : Hp), i + d = x.1 → Sm (fun a k => (a = 1086 ∧ k = to) ∨ (1088 ≤ a ∧ a ≤ 1092 ∧ 60 * to ≤ k ∧ k < 60 * to + 60) ∨ (1093 ≤ a ∧ a ≤ 1095 ∧ 1200 * to ≤ k ∧ k < 1200 * to + 1200) ∨ (a = 1096 ∧ 13 * to ≤ k ∧ k < 13 * to + 13)) h h1 → h1.2.1 1086 to = (x.1 : Int) → (∀ m, m < i → Rw h1 (60 * to + m) x m) → RN 220 14 [some (.inr (.inr (some 1085))), some (.inl (fr : Int)), some (.inl (to : Int)), some (.inl (i : Int))] [] h1 0 0 (fun v h2 => Sm (fun a k => (a = 1086 ∧ k = to) ∨ (1088 ≤ a ∧ a ≤ 1092 ∧ 60 * to ≤ k ∧ k < 60 * to + 60) ∨ (1093 ≤ a ∧ a ≤ 1095 ∧ 1200 * to ≤ k ∧ k < 1200 * to + 1200) ∨ (a = 1096 ∧ 13 * to ≤ k ∧ k < 13 * to + 13)) h h2 ∧ RepM h2 to x ∧ v = none) from LP x.1 0 _ (by omega) (Sm.put Sm.refl (by omega)) putI_eq (fun m hm => by omega)
  refine fun d => Nat.strongRecOn d (fun d ih => ?_)
  intro i h1 hd S1 e3 rA
  replace g1 := S1.gg g
  have eN : h1.2.1 1086 fr = (x.1 : Int) := (S1.2.2 _ _ (by omega)).trans N0
  refine r_iload_n hm rfl (k := ?_)
  refine r_aload_n hm rfl (k := ?_)
  refine r_getR (hm := hm) (hf := rfl) (hd := rfl) (hs := (by first | assumption | exact (g1.1 _).trans rfl)) (hv := (by first | assumption | exact g1.2 _ _ _ rfl | exact eN | exact N0 | exact rfl)) (k := ?_)
  refine r_iload_n hm rfl (k := ?_)
  refine r_iald (hm := hm) (hf := rfl) (hs := (by first | assumption | exact (g1.1 _).trans rfl)) (kk := fr) (hi := by omega) (hn := (by omega)) (hv := (by first | assumption | exact g1.2 _ _ _ rfl | exact eN | exact N0 | exact rfl)) (k := ?_)
  refine r_icmp_ge (t := 46) hm rfl rfl (fun c21 => ?_) (fun c21 => ?_)
  · refine r_iconst hm rfl (k := ?_)
    refine r_istore_n hm rfl (k := ?_)
    have ei : i = x.1 := by omega
    subst ei
    suffices LP : ∀ (d2 k : Nat) (h1 : Hp), k + d2 = 13 → Sm (fun a k => (a = 1086 ∧ k = to) ∨ (1088 ≤ a ∧ a ≤ 1092 ∧ 60 * to ≤ k ∧ k < 60 * to + 60) ∨ (1093 ≤ a ∧ a ≤ 1095 ∧ 1200 * to ≤ k ∧ k < 1200 * to + 1200) ∨ (a = 1096 ∧ 13 * to ≤ k ∧ k < 13 * to + 13)) h h1 → h1.2.1 1086 to = (x.1 : Int) → (∀ m, m < x.1 → Rw h1 (60 * to + m) x m) → (∀ k2, k2 < k → h1.2.1 1096 (13 * to + k2) = x.2.2.2 k2) → RN 220 48 [some (.inr (.inr (some 1085))), some (.inl (fr : Int)), some (.inl (to : Int)), some (.inl (k : Int))] [] h1 0 0 (fun v h2 => Sm (fun a k => (a = 1086 ∧ k = to) ∨ (1088 ≤ a ∧ a ≤ 1092 ∧ 60 * to ≤ k ∧ k < 60 * to + 60) ∨ (1093 ≤ a ∧ a ≤ 1095 ∧ 1200 * to ≤ k ∧ k < 1200 * to + 1200) ∨ (a = 1096 ∧ 13 * to ≤ k ∧ k < 13 * to + 13)) h h2 ∧ RepM h2 to x ∧ v = none) from LP 13 0 _ (by omega) S1 e3 rA (fun k2 hk2 => by omega)
    refine fun d2 => Nat.strongRecOn d2 (fun d2 ih2 => ?_)
    intro k h1 hd2 S1 e3 rA eS
    replace g1 := S1.gg g
    refine r_iload_n hm rfl (k := ?_)
    refine r_bipush hm rfl (k := ?_)
    refine r_icmp_ge (t := 82) hm rfl rfl (fun c51 => ?_) (fun c51 => ?_)
    · refine r_return hm rfl rfl (Nat.le_of_ble_eq_true rfl) (Nat.le_of_ble_eq_true rfl) ?_
      have ek : k = 13 := by omega
      subst ek
      exact ⟨S1, ⟨e3, hok.1, fun f m hf hm => (rA m hm).1 f hf, fun g9 m k hg9 hm h4 => (rA m hm).2 g9 k hg9 (by have := hok.2.1 m hm; unfold okIt at this; omega) h4, eS⟩, rfl⟩
    · refine r_aload_n hm rfl (k := ?_)
      refine r_getR (hm := hm) (hf := rfl) (hd := rfl) (hs := (by first | assumption | exact (g1.1 _).trans rfl)) (hv := (by first | assumption | exact g1.2 _ _ _ rfl | exact eN | exact N0 | exact rfl)) (k := ?_)
      refine r_bipush hm rfl (k := ?_)
      refine r_iload_n hm rfl (k := ?_)
      refine r_imul hm rfl (hr := (by omega)) (k := ?_)
      refine r_iload_n hm rfl (k := ?_)
      refine r_iadd hm rfl (hr := (by omega)) (k := ?_)
      refine r_aload_n hm rfl (k := ?_)
      refine r_getR (hm := hm) (hf := rfl) (hd := rfl) (hs := (by first | assumption | exact (g1.1 _).trans rfl)) (hv := (by first | assumption | exact g1.2 _ _ _ rfl | exact eN | exact N0 | exact rfl)) (k := ?_)
      refine r_bipush hm rfl (k := ?_)
      refine r_iload_n hm rfl (k := ?_)
      refine r_imul hm rfl (hr := (by omega)) (k := ?_)
      refine r_iload_n hm rfl (k := ?_)
      refine r_iadd hm rfl (hr := (by omega)) (k := ?_)
      refine r_iald (hm := hm) (hf := rfl) (hs := (by first | assumption | exact (g1.1 _).trans rfl)) (kk := 13 * fr + k) (hi := by omega) (hn := (by omega)) (hv := (by first | assumption | exact g1.2 _ _ _ rfl | exact eN | exact N0 | exact rfl)) (k := ?_)
      refine r_iast (hm := hm) (hf := rfl) (h28 := (by omega)) (hs := (by first | assumption | exact (g1.1 _).trans rfl)) (kk := 13 * to + k) (hi := by omega) (hn := (by omega)) (k := ?_)
      refine r_iinc hm rfl (hr := (by omega)) (k := ?_)
      refine r_goto (t := 48) hm rfl (k := ?_)
      refine ih2 (d2 - 1) (by omega) (k + 1) _ (by omega) (Sm.put S1 (by omega)) ((putI_ne (by omega)).trans e3) (fun m hm => (rA m hm).same (Sm.put (S := fun a k => a = 1096) Sm.refl rfl) (fun a k9 z z2 => by unfold rgR at z2; omega)) (fun k2 hk2 => ?_)
      by_cases ek : k2 = k
      · subst ek
        exact putI_eq.trans ((S1.2.2 _ _ (by omega)).trans (S0 k2 (by omega)))
      · rw [putI_ne (by omega)]; exact eS k2 (by omega)
  · have qC := m_copy g1 (fr := 60 * fr + i) (to := 60 * to + i) (by omega) (by omega) (by omega)
    rw [show (((60 * fr + i : Nat)) : Int) = 60 * (fr : Int) + (i : Int) by omega, show (((60 * to + i : Nat)) : Int) = 60 * (to : Int) + (i : Int) by omega] at qC
    refine r_aload_n hm rfl (k := ?_)
    refine r_bipush hm rfl (k := ?_)
    refine r_iload_n hm rfl (k := ?_)
    refine r_imul hm rfl (hr := (by omega)) (k := ?_)
    refine r_iload_n hm rfl (k := ?_)
    refine r_iadd hm rfl (hr := (by omega)) (k := ?_)
    refine r_bipush hm rfl (k := ?_)
    refine r_iload_n hm rfl (k := ?_)
    refine r_imul hm rfl (hr := (by omega)) (k := ?_)
    refine r_iload_n hm rfl (k := ?_)
    refine r_iadd hm rfl (hr := (by omega)) (k := ?_)
    refine r_callv (j2 := 163) hm rfl rfl rfl rfl rfl rfl (by first | assumption | exact (g1.1 _).trans rfl) (Nat.le_of_ble_eq_true rfl) (Nat.le_of_ble_eq_true rfl) rfl ⟨Nat.le_of_ble_eq_true rfl, Nat.le_of_ble_eq_true rfl, Nat.le_of_ble_eq_true rfl, Nat.le_of_ble_eq_true rfl, Nat.le_of_ble_eq_true rfl⟩ rfl (qC) (fun v9 hB p9 => ?_)
    obtain ⟨SB, cF, cP, e1⟩ := p9
    subst e1
    change RN 220 40 _ _ _ 0 0 _
    dsimp only [Option.toList, List.nil_append]
    refine r_iinc hm rfl (hr := (by omega)) (k := ?_)
    refine r_goto (t := 14) hm rfl (k := ?_)
    refine ih (d - 1) (by omega) (i + 1) hB (by omega) (S1.trans (SB.mono (fun a k z => by unfold rgR at z; omega))) ((SB.2.2 _ _ (by unfold rgR; omega)).trans e3) (fun m hm => ?_)
    by_cases em : m = i
    · subst em
      have r0 : Rw h (60 * fr + m) x m := ⟨fun f hf => hR.2.2.1 f m hf (by omega), fun g9 k hg9 _ h4 => hR.2.2.2.1 g9 m k hg9 (by omega) h4⟩
      exact (r0.same S1 (fun a k z z2 => by unfold rgR at z2; omega)).cp cF cP
    · exact (rA m (by omega)).same SB (fun a k9 z z2 => by unfold rgR at z z2; omega)
set_option maxRecDepth 8000 in
theorem m_keep {L : Nat} {h : Hp} {S : St} (I : InvM L h S) (ok : okS S) {vI : Int} (hv0 : inI vI) : RN 218 0 [some (.inr (.inr (some 1085))), some (.inl vI)] [] h 0 0 (fun v h2 => InvM L h2 (oKeep S vI) ∧ FxM h h2 ∧ v = some (.inl (aKeep S vI))) := by
  have hm : mrec 218 = some nM218 := rfl
  obtain ⟨g, hR, hV, hK, hG, hL, hB, hFl⟩ := id I
  have hok := ok.1
  obtain ⟨M0, M1, M2, M3, M4, Q0, Q1, Q2, S0, N0, N1⟩ := hR.use
  have n60 := hok.1
  have g1 := g
  have hR1 := hR
  have hH : 8 ≤ S.1.2.2.2 0 ∧ S.1.2.2.2 0 ≤ 60 := by have := hok.2.2.2.2; unfold okStl at this; omega
  refine r_iload_n hm rfl (k := ?_)
  refine r_calls (j2 := 219) hm rfl rfl rfl rfl rfl rfl (Nat.le_of_ble_eq_true rfl) (Nat.le_of_ble_eq_true rfl) rfl ⟨Nat.le_of_ble_eq_true rfl, Nat.le_of_ble_eq_true rfl, Nat.le_of_ble_eq_true rfl, Nat.le_of_ble_eq_true rfl, Nat.le_of_ble_eq_true rfl⟩ rfl (m_isSlot hv0) (fun v9 h9 p9 => ?_)
  obtain ⟨e1, e2⟩ := p9
  subst e2
  replace e1 := e1.symm
  subst e1
  obtain ⟨b9, eb9, hb9⟩ := ite01 (p := 0 ≤ vI ∧ vI ≤ 2)
  rw [eb9]
  change RN 218 4 _ _ _ 0 0 _
  dsimp only [Option.toList, List.cons_append, List.nil_append]
  refine r_if_ne (t := 11) hm rfl rfl (fun c4 => ?_) (fun c4 => ?_)
  · obtain ⟨q, rfl⟩ := Int.eq_ofNat_of_zero_le (show 0 ≤ vI by omega)
    refine r_aload_n hm rfl (k := ?_)
    refine r_iconst hm rfl (k := ?_)
    refine r_iload_n hm rfl (k := ?_)
    refine r_callv (j2 := 220) hm rfl rfl rfl rfl rfl rfl (by first | assumption | exact (g1.1 _).trans rfl) (Nat.le_of_ble_eq_true rfl) (Nat.le_of_ble_eq_true rfl) rfl ⟨Nat.le_of_ble_eq_true rfl, Nat.le_of_ble_eq_true rfl, Nat.le_of_ble_eq_true rfl, Nat.le_of_ble_eq_true rfl, Nat.le_of_ble_eq_true rfl⟩ rfl (m_copySlot (fr := 3) (to := q) g hR hok (by omega) (by omega) (by omega)) (fun v9 hA p9 => ?_)
    obtain ⟨SA, RA, e1⟩ := p9
    subst e1
    replace g1 := (SA.gg g)
    change RN 218 17 _ _ _ 0 0 _
    dsimp only [Option.toList, List.nil_append]
    refine r_aload_n hm rfl (k := ?_)
    refine r_getR (hm := hm) (hf := rfl) (hd := rfl) (hs := (by first | assumption | exact (g1.1 _).trans rfl)) (hv := (by first | assumption | exact g1.2 _ _ _ rfl | exact (putI_ne (by omega)).trans RA.1)) (k := ?_)
    refine r_iload_n hm rfl (k := ?_)
    refine r_iconst hm rfl (k := ?_)
    refine r_bast (hm := hm) (hf := rfl) (hz := by omega) (h28 := (by omega)) (hs := (by first | assumption | exact (g1.1 _).trans rfl)) (kk := q) (hi := by omega) (hn := (by omega)) (k := ?_)
    refine r_aload_n hm rfl (k := ?_)
    refine r_getR (hm := hm) (hf := rfl) (hd := rfl) (hs := (by first | assumption | exact (g1.1 _).trans rfl)) (hv := (by first | assumption | exact g1.2 _ _ _ rfl | exact (putI_ne (by omega)).trans RA.1)) (k := ?_)
    refine r_iload_n hm rfl (k := ?_)
    refine r_iald (hm := hm) (hf := rfl) (hs := (by first | assumption | exact (g1.1 _).trans rfl)) (kk := q) (hi := by omega) (hn := (by omega)) (hv := (by first | assumption | exact g1.2 _ _ _ rfl | exact (putI_ne (by omega)).trans RA.1)) (k := ?_)
    refine r_ireturn hm rfl rfl (by rfl) (Nat.le_of_ble_eq_true rfl) (Nat.le_of_ble_eq_true rfl) ?_
    unfold oKeep aKeep
    rw [if_pos (by omega), if_pos (by omega), Int.toNat_natCast]
    have eI : ∀ a k, ¬ ((a = 1086 ∧ k = q) ∨ (1088 ≤ a ∧ a ≤ 1092 ∧ 60 * q ≤ k ∧ k < 60 * q + 60) ∨ (1093 ≤ a ∧ a ≤ 1095 ∧ 1200 * q ≤ k ∧ k < 1200 * q + 1200) ∨ (a = 1096 ∧ 13 * q ≤ k ∧ k < 13 * q + 13)) → ¬ (a = 1087 ∧ k = q) → (putI hA 1087 q 1).2.1 a k = h.2.1 a k := fun a k e e2 => (putI_ne (by omega)).trans (SA.2.2 a k e)
    have fr9 : ∀ (c : Nat) (y : Tx), c ≤ 3 → c ≠ q → RepM h c y → okTx y → RepM (putI hA 1087 q 1) c y := fun c y hc hcq Ry oky => ⟨(eI _ _ (by omega) (by omega)).trans Ry.1, Ry.2.1, fun f i hf hi => (by have := oky.1; exact (eI _ _ (by omega) (by omega)).trans (Ry.2.2.1 f i hf hi)), fun g9 i k hg9 hi hk => (by have := oky.1; have h4 := oky.2.1 i hi; unfold okIt at h4; exact (eI _ _ (by omega) (by omega)).trans (Ry.2.2.2.1 g9 i k hg9 hi hk)), fun k hk => (eI _ _ (by omega) (by omega)).trans (Ry.2.2.2.2 k hk)⟩
    refine ⟨⟨(Sm.put (S := fun a _ => 1085 ≤ a) (v := 1) (SA.mono (fun a k z => by omega)) (by omega)).gg g, fr9 3 _ (by omega) (by omega) hR hok, fun u hu e => ?_, fun u hu => ?_, (eI _ _ (by omega) (by omega)).trans hG, (eI _ _ (by omega) (by omega)).trans hL, fun k hk => (eI _ _ (by omega) (by omega)).trans (hB k hk), (eI _ _ (by omega) (by omega)).trans hFl⟩, Sm.put (SA.mono (fun a k z => by omega)) (by omega), rfl⟩
    · have e9 : upf S.2.2.1 q 1 u = 1 := e
      show RepM _ u (upf S.2.1 q S.1 u)
      by_cases eu : u = q
      · rw [eu, upf_eq]
        exact ⟨(putI_ne (by omega)).trans RA.1, RA.2.1, fun f i hf hi => (putI_ne (by omega)).trans (RA.2.2.1 f i hf hi), fun g9 i k hg9 hi hk => (putI_ne (by omega)).trans (RA.2.2.2.1 g9 i k hg9 hi hk), fun k hk => (putI_ne (by omega)).trans (RA.2.2.2.2 k hk)⟩
      · rw [upf_ne eu]
        rw [upf_ne eu] at e9
        exact fr9 u _ (by omega) eu (hV u hu e9) (ok.2.1 u hu)
    · show _ = upf S.2.2.1 q 1 u
      by_cases eu : u = q
      · rw [eu, upf_eq]; exact putI_eq
      · rw [upf_ne eu]; exact (eI _ _ (by omega) (by omega)).trans (hK u hu)
  · refine r_sipush hm rfl (k := ?_)
    refine r_ireturn hm rfl rfl (by rfl) (Nat.le_of_ble_eq_true rfl) (Nat.le_of_ble_eq_true rfl) ?_
    unfold oKeep aKeep
    rw [if_neg (by omega), if_neg (by omega)]
    exact ⟨I, Sm.refl, rfl⟩
set_option maxRecDepth 8000 in
theorem m_back {L : Nat} {h : Hp} {S : St} (I : InvM L h S) (ok : okS S) {vI : Int} (hv0 : inI vI) : RN 221 0 [some (.inr (.inr (some 1085))), some (.inl vI)] [] h 0 0 (fun v h2 => InvM L h2 (oBack S vI) ∧ FxM h h2 ∧ v = some (.inl (aBack S vI))) := by
  have hm : mrec 221 = some nM221 := rfl
  obtain ⟨g, hR, hV, hK, hG, hL, hB, hFl⟩ := id I
  have hok := ok.1
  obtain ⟨M0, M1, M2, M3, M4, Q0, Q1, Q2, S0, N0, N1⟩ := hR.use
  have n60 := hok.1
  have g1 := g
  have hR1 := hR
  have hH : 8 ≤ S.1.2.2.2 0 ∧ S.1.2.2.2 0 ≤ 60 := by have := hok.2.2.2.2; unfold okStl at this; omega
  refine r_iload_n hm rfl (k := ?_)
  refine r_calls (j2 := 219) hm rfl rfl rfl rfl rfl rfl (Nat.le_of_ble_eq_true rfl) (Nat.le_of_ble_eq_true rfl) rfl ⟨Nat.le_of_ble_eq_true rfl, Nat.le_of_ble_eq_true rfl, Nat.le_of_ble_eq_true rfl, Nat.le_of_ble_eq_true rfl, Nat.le_of_ble_eq_true rfl⟩ rfl (m_isSlot hv0) (fun v9 h9 p9 => ?_)
  obtain ⟨e1, e2⟩ := p9
  subst e2
  replace e1 := e1.symm
  subst e1
  obtain ⟨b9, eb9, hb9⟩ := ite01 (p := 0 ≤ vI ∧ vI ≤ 2)
  rw [eb9]
  change RN 221 4 _ _ _ 0 0 _
  dsimp only [Option.toList, List.cons_append, List.nil_append]
  refine r_if_eq (t := 16) hm rfl rfl (fun c4 => ?_) (fun c4 => ?_)
  · refine r_sipush hm rfl (k := ?_)
    refine r_ireturn hm rfl rfl (by rfl) (Nat.le_of_ble_eq_true rfl) (Nat.le_of_ble_eq_true rfl) ?_
    unfold oBack aBack
    rw [if_neg (by omega), if_neg (by omega)]
    exact ⟨I, Sm.refl, rfl⟩
  · obtain ⟨q, rfl⟩ := Int.eq_ofNat_of_zero_le (show 0 ≤ vI by omega)
    have hk01 := ok.2.2.1 q (by omega)
    refine r_aload_n hm rfl (k := ?_)
    refine r_getR (hm := hm) (hf := rfl) (hd := rfl) (hs := (by first | assumption | exact (g1.1 _).trans rfl)) (hv := (by first | assumption | exact g1.2 _ _ _ rfl | exact hK _ (by omega) | exact RA.1)) (k := ?_)
    refine r_iload_n hm rfl (k := ?_)
    refine r_bald (hm := hm) (hf := rfl) (hs := (by first | assumption | exact (g1.1 _).trans rfl)) (hkd := by decide) (kk := q) (hi := by omega) (hn := (by omega)) (hv := (by first | assumption | exact g1.2 _ _ _ rfl | exact hK _ (by omega) | exact RA.1)) (k := ?_)
    refine r_if_ne (t := 20) hm rfl rfl (fun c13 => ?_) (fun c13 => ?_)
    · refine r_aload_n hm rfl (k := ?_)
      refine r_iload_n hm rfl (k := ?_)
      refine r_iconst hm rfl (k := ?_)
      refine r_callv (j2 := 220) hm rfl rfl rfl rfl rfl rfl (by first | assumption | exact (g1.1 _).trans rfl) (Nat.le_of_ble_eq_true rfl) (Nat.le_of_ble_eq_true rfl) rfl ⟨Nat.le_of_ble_eq_true rfl, Nat.le_of_ble_eq_true rfl, Nat.le_of_ble_eq_true rfl, Nat.le_of_ble_eq_true rfl, Nat.le_of_ble_eq_true rfl⟩ rfl (m_copySlot (fr := q) (to := 3) g (hV q (by omega) (by omega)) (ok.2.1 q (by omega)) (by omega) (by omega) (by omega)) (fun v9 hA p9 => ?_)
      obtain ⟨SA, RA, e1⟩ := p9
      subst e1
      replace g1 := (SA.gg g)
      change RN 221 26 _ _ _ 0 0 _
      dsimp only [Option.toList, List.nil_append]
      refine r_aload_n hm rfl (k := ?_)
      refine r_getR (hm := hm) (hf := rfl) (hd := rfl) (hs := (by first | assumption | exact (g1.1 _).trans rfl)) (hv := (by first | assumption | exact g1.2 _ _ _ rfl | exact hK _ (by omega) | exact RA.1)) (k := ?_)
      refine r_iconst hm rfl (k := ?_)
      refine r_iald (hm := hm) (hf := rfl) (hs := (by first | assumption | exact (g1.1 _).trans rfl)) (kk := 3) (hi := by omega) (hn := (by omega)) (hv := (by first | assumption | exact g1.2 _ _ _ rfl | exact hK _ (by omega) | exact RA.1)) (k := ?_)
      refine r_ireturn hm rfl rfl (by rfl) (Nat.le_of_ble_eq_true rfl) (Nat.le_of_ble_eq_true rfl) ?_
      unfold oBack aBack
      simp only [Int.toNat_natCast]
      rw [if_pos (by omega), if_pos (by omega)]
      have fr9 : ∀ (c : Nat) (y : Tx), c < 3 → RepM h c y → okTx y → RepM hA c y := fun c y hc Ry oky => ⟨(SA.2.2 _ _ (by omega)).trans Ry.1, Ry.2.1, fun f i hf hi => (by have := oky.1; exact (SA.2.2 _ _ (by omega)).trans (Ry.2.2.1 f i hf hi)), fun g9 i k hg9 hi hk => (by have := oky.1; have h4 := oky.2.1 i hi; unfold okIt at h4; exact (SA.2.2 _ _ (by omega)).trans (Ry.2.2.2.1 g9 i k hg9 hi hk)), fun k hk => (SA.2.2 _ _ (by omega)).trans (Ry.2.2.2.2 k hk)⟩
      exact ⟨⟨SA.gg g, RA, fun u hu e => fr9 u _ hu (hV u hu e) (ok.2.1 u hu), fun u hu => (SA.2.2 _ _ (by omega)).trans (hK u hu), (SA.2.2 _ _ (by omega)).trans hG, (SA.2.2 _ _ (by omega)).trans hL, fun k hk => (SA.2.2 _ _ (by omega)).trans (hB k hk), (SA.2.2 _ _ (by omega)).trans hFl⟩, SA.mono (fun a k z => by omega), rfl⟩
    · refine r_sipush hm rfl (k := ?_)
      refine r_ireturn hm rfl rfl (by rfl) (Nat.le_of_ble_eq_true rfl) (Nat.le_of_ble_eq_true rfl) ?_
      unfold oBack aBack
      simp only [Int.toNat_natCast]
      rw [if_neg (by omega), if_neg (by omega)]
      exact ⟨I, Sm.refl, rfl⟩
