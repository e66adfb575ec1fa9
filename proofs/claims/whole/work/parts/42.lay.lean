/-! one round: reference -/
set_option maxRecDepth 8000 in
theorem m_setItem {L : Nat} {h : Hp} {c : Nat} {x : Tx} (g : GG L h) (hc : h.2.1 1085 12 = (c : Int)) (hc3 : c ≤ 3) (hR : RepM h c x) {lt : LT} {T i r : Nat} {H : Int} {q : PS} (hok : okTx x) (hl : okLt x lt) (hi : i < x.1) (hr : r ≤ 11) (hLt : ∀ k, k < pcs x i → h.2.1 1103 (1200 * r + 20 * i + k) = lt i k) (hH : 8 ≤ H ∧ H ≤ 60) (hq : PgM h H q) (ok : PSok x T i q) (hT : T + cap x i ≤ 1200) : RN 188 0 [some (.inr (.inr (some 1085))), some (.inl (i : Int)), some (.inl (r : Int)), none, none, none] [] h 0 0 (fun v h2 => Sm (fun a k => regW a k ∨ a = 1113 ∨ a = 1114 ∨ (a = 1109 ∧ k = i) ∨ ((a = 1104 ∨ a = 1105) ∧ 20 * i ≤ k ∧ k < 20 * i + 20)) h h2 ∧ PgM h2 H (iS x H lt i q).1 ∧ h2.2.1 1109 i = lnc x lt i ∧ (∀ k, k < pcs x i → h2.2.1 1104 (20 * i + k) = (loi x lt i k : Int) ∧ h2.2.1 1105 (20 * i + k) = (iS x H lt i q).2 k) ∧ v = none) := by
  have hm : mrec 188 = some nM188 := rfl
  have n60 := hok.1
  obtain ⟨ep, ep2⟩ := pcs_eq hok hi
  have hit := hok.2.1 i hi
  unfold okIt at hit
  have hr9 := hli_rng (x.2.1 2 i)
  have S1 : Sm (fun a k => regW a k ∨ a = 1113 ∨ a = 1114 ∨ (a = 1109 ∧ k = i) ∨ ((a = 1104 ∨ a = 1105) ∧ 20 * i ≤ k ∧ k < 20 * i + 20)) h h := Sm.refl
  have g1 := S1.gg g
  have hc1 := (S1.2.2 1085 12 (by unfold regW; omega)).trans hc
  have hR1 := S1.repM (fun a k q9 => by unfold regW at q9; omega) hR
  obtain ⟨M0, M1, M2, M3, M4, Q0, Q1, Q2, S0, N0, N1⟩ := hR1.use
  obtain ⟨v5, v6, v7, v8, vus, vfp, vlp, vwr⟩ := id hq
  have ok4 := ok.rng (by omega)
  have wt60 := ok.1.2.2.2.2.2.1
  refine r_aload_n hm rfl (k := ?_)
  refine r_iload_n hm rfl (k := ?_)
  refine r_callv (j2 := 174) hm rfl rfl rfl rfl rfl rfl (by first | assumption | exact (g1.1 _).trans rfl) (Nat.le_of_ble_eq_true rfl) (Nat.le_of_ble_eq_true rfl) rfl ⟨Nat.le_of_ble_eq_true rfl, Nat.le_of_ble_eq_true rfl, Nat.le_of_ble_eq_true rfl, Nat.le_of_ble_eq_true rfl, Nat.le_of_ble_eq_true rfl⟩ rfl (m_kind g1 hc1 hc3 hR1 (i := i) hi) (fun v9 h9 p9 => ?_)
  obtain ⟨e1, e2⟩ := p9
  subst e2
  replace e1 := e1.symm
  subst e1
  change RN 188 5 _ _ _ 0 0 _
  dsimp only [Option.toList, List.cons_append, List.nil_append]
  refine r_istore_n hm rfl (k := ?_)
  refine r_iload_n hm rfl (k := ?_)
  refine r_if_ne (t := 112) hm rfl rfl (fun c7 => ?_) (fun c7 => ?_)
  · refine r_iload_n hm rfl (k := ?_)
    refine r_iconst hm rfl (k := ?_)
    refine r_icmp_ne (t := 179) hm rfl rfl (fun c114 => ?_) (fun c114 => ?_)
    · refine r_iload_n hm rfl (k := ?_)
      refine r_iconst hm rfl (k := ?_)
      refine r_icmp_ge (t := 291) hm rfl rfl (fun c181 => ?_) (fun c181 => ?_)
      · have qLi := m_listed g1 hc1 hc3 hR1 (i := i) hi (by omega)
        rw [← cli_eq] at qLi
        refine r_aload_n hm rfl (k := ?_)
        refine r_iload_n hm rfl (k := ?_)
        refine r_callv (j2 := 194) hm rfl rfl rfl rfl rfl rfl (by first | assumption | exact (g1.1 _).trans rfl) (Nat.le_of_ble_eq_true rfl) (Nat.le_of_ble_eq_true rfl) rfl ⟨Nat.le_of_ble_eq_true rfl, Nat.le_of_ble_eq_true rfl, Nat.le_of_ble_eq_true rfl, Nat.le_of_ble_eq_true rfl, Nat.le_of_ble_eq_true rfl⟩ rfl (qLi) (fun v9 h9 p9 => ?_)
        obtain ⟨e1, e2⟩ := p9
        subst e2
        replace e1 := e1.symm
        subst e1
        have capE : cap x i = cli x i := by unfold cap; rw [if_neg (by omega), if_pos (by omega)]
        have cl60 : cli x i ≤ 60 := by have := sm_le (f := fun q => if lstB x i q = true then (1 : Int) else 0) (B := 1) (fun k => by split <;> omega) x.1 0; have := cli_eq (x := x) (i := i); omega
        change RN 188 296 _ _ _ 0 0 _
        dsimp only [Option.toList, List.cons_append, List.nil_append]
        refine r_istore hm rfl (k := ?_)
        refine r_iconst hm rfl (k := ?_)
        refine r_istore hm rfl (k := ?_)
        suffices LP : ∀ (d l : Nat) (h1 : Hp), l + d = cli x i → Sm (fun a k => regW a k ∨ a = 1113 ∨ a = 1114 ∨ (a = 1109 ∧ k = i) ∨ ((a = 1104 ∨ a = 1105) ∧ 20 * i ≤ k ∧ k < 20 * i + 20)) h h1 → PgM h1 H q → (∀ l2, l2 < l → h1.2.1 1113 l2 = 1) → RN 188 301 [some (.inr (.inr (some 1085))), some (.inl (i : Int)), some (.inl (r : Int)), some (.inl (x.2.1 1 i)), some (.inl (cli x i : Int)), some (.inl (l : Int))] [] h1 0 0 (fun v h2 => Sm (fun a k => regW a k ∨ a = 1113 ∨ a = 1114 ∨ (a = 1109 ∧ k = i) ∨ ((a = 1104 ∨ a = 1105) ∧ 20 * i ≤ k ∧ k < 20 * i + 20)) h h2 ∧ PgM h2 H (iS x H lt i q).1 ∧ h2.2.1 1109 i = lnc x lt i ∧ (∀ k, k < pcs x i → h2.2.1 1104 (20 * i + k) = (loi x lt i k : Int) ∧ h2.2.1 1105 (20 * i + k) = (iS x H lt i q).2 k) ∧ v = none) from LP (cli x i) 0 _ (by omega) S1 hq (fun l hl9 => by omega)
        clear hq S1
        refine fun d => Nat.strongRecOn d (fun d ih => ?_)
        intro l h1 hd S1 hq eOn
        have g1 := S1.gg g
        have hc1 := (S1.2.2 1085 12 (by unfold regW; omega)).trans hc
        have hR1 := S1.repM (fun a k q9 => by unfold regW at q9; omega) hR
        obtain ⟨M0, M1, M2, M3, M4, Q0, Q1, Q2, S0, N0, N1⟩ := hR1.use
        refine r_iload hm rfl (k := ?_)
        refine r_iload hm rfl (k := ?_)
        refine r_icmp_ge (t := 322) hm rfl rfl (fun c305 => ?_) (fun c305 => ?_)
        · have qL := m_setLines g1 hc1 hc3 hR1 hH hq ok (nl := cli x i) (nd := fun _ => 1) (by omega) (by omega) hi (by omega) (fun _ => ⟨Int.le_refl _, (by decide : (1 : Int) ≤ 101)⟩) (fun l2 hl2 => eOn l2 (by omega))
          refine r_aload_n hm rfl (k := ?_)
          refine r_iload_n hm rfl (k := ?_)
          refine r_iload hm rfl (k := ?_)
          refine r_callv (j2 := 193) hm rfl rfl rfl rfl rfl rfl (by first | assumption | exact (g1.1 _).trans rfl) (Nat.le_of_ble_eq_true rfl) (Nat.le_of_ble_eq_true rfl) rfl ⟨Nat.le_of_ble_eq_true rfl, Nat.le_of_ble_eq_true rfl, Nat.le_of_ble_eq_true rfl, Nat.le_of_ble_eq_true rfl, Nat.le_of_ble_eq_true rfl⟩ rfl (qL) (fun v9 hC p9 => ?_)
          obtain ⟨SC, hqE, lpC, elE, e1⟩ := p9
          subst e1
          replace S1 : Sm (fun a k => regW a k ∨ a = 1113 ∨ a = 1114 ∨ (a = 1109 ∧ k = i) ∨ ((a = 1104 ∨ a = 1105) ∧ 20 * i ≤ k ∧ k < 20 * i + 20)) h hC := S1.trans (SC.mono (fun a k z => by unfold regW at z ⊢; omega))
          change RN 188 329 _ _ _ 0 0 _
          dsimp only [Option.toList, List.nil_append]
          refine r_return hm rfl rfl (Nat.le_of_ble_eq_true rfl) (Nat.le_of_ble_eq_true rfl) ?_
          have eI : iS x H lt i q = ((lls x H i (cli x i) (fun _ => 1) q).1, fun _ => 0) := by
            unfold iS
            rw [if_neg (show ¬ x.2.1 1 i = 0 by omega), if_neg (show ¬ x.2.1 1 i = 1 by omega), if_neg (show ¬ (x.2.1 1 i = 2 ∨ x.2.1 1 i = 3) by omega)]
          have eN : lnc x lt i = (cli x i : Int) := by
            unfold lnc
            rw [if_neg (show ¬ x.2.1 1 i = 0 by omega), if_neg (show ¬ x.2.1 1 i = 1 by omega), if_neg (show ¬ (x.2.1 1 i = 2 ∨ x.2.1 1 i = 3) by omega)]
          rw [eI, eN]
          exact ⟨S1, hqE, elE, fun k hk => by omega, rfl⟩
        · refine r_aload_n hm rfl (k := ?_)
          refine r_getR (hm := hm) (hf := rfl) (hd := rfl) (hs := (by first | assumption | exact (g1.1 _).trans rfl)) (hv := (by first | exact putI_eq | exact (putI_ne (by omega)).trans (by first | exact putI_eq | exact (putI_ne (by omega)).trans (by first | exact putI_eq | exact (putI_ne (by omega)).trans (by first | first | assumption | exact g1.2 _ _ _ rfl | exact vus _ (by omega) (by omega) | exact eLo _ (by omega) | exact eLp _ (by omega)) | first | assumption | exact g1.2 _ _ _ rfl | exact vus _ (by omega) (by omega) | exact eLo _ (by omega) | exact eLp _ (by omega)) | first | assumption | exact g1.2 _ _ _ rfl | exact vus _ (by omega) (by omega) | exact eLo _ (by omega) | exact eLp _ (by omega)) | first | assumption | exact g1.2 _ _ _ rfl | exact vus _ (by omega) (by omega) | exact eLo _ (by omega) | exact eLp _ (by omega))) (k := ?_)
          refine r_iload hm rfl (k := ?_)
          refine r_iconst hm rfl (k := ?_)
          refine r_iast (hm := hm) (hf := rfl) (h28 := (by omega)) (hs := (by first | assumption | exact (g1.1 _).trans rfl)) (hi := rfl) (hn := (by omega)) (k := ?_)
          refine r_iinc hm rfl (hr := (by omega)) (k := ?_)
          refine r_goto (t := 301) hm rfl (k := ?_)
          refine ih (d - 1) (by omega) (l + 1) _ (by omega) (Sm.put S1 (by unfold regW; omega)) (hq.same (Sm.put (S := fun a k => a = 1113) Sm.refl rfl) (fun a k z => by unfold regW; omega)) (fun l2 hl2 => ?_)
          by_cases ek : l2 = l
          · subst ek
            exact putI_eq
          · rw [putI_ne (by omega)]
            exact eOn l2 (by omega)
      · refine r_aload_n hm rfl (k := ?_)
        refine r_getR (hm := hm) (hf := rfl) (hd := rfl) (hs := (by first | assumption | exact (g1.1 _).trans rfl)) (hv := (by first | exact putI_eq | exact (putI_ne (by omega)).trans (by first | exact putI_eq | exact (putI_ne (by omega)).trans (by first | exact putI_eq | exact (putI_ne (by omega)).trans (by first | first | assumption | exact g1.2 _ _ _ rfl | exact vus _ (by omega) (by omega) | exact eLo _ (by omega) | exact eLp _ (by omega)) | first | assumption | exact g1.2 _ _ _ rfl | exact vus _ (by omega) (by omega) | exact eLo _ (by omega) | exact eLp _ (by omega)) | first | assumption | exact g1.2 _ _ _ rfl | exact vus _ (by omega) (by omega) | exact eLo _ (by omega) | exact eLp _ (by omega)) | first | assumption | exact g1.2 _ _ _ rfl | exact vus _ (by omega) (by omega) | exact eLo _ (by omega) | exact eLp _ (by omega))) (k := ?_)
        refine r_iload_n hm rfl (k := ?_)
        refine r_aload_n hm rfl (k := ?_)
        refine r_iload_n hm rfl (k := ?_)
        refine r_callv (j2 := 175) hm rfl rfl rfl rfl rfl rfl (by first | assumption | exact (g1.1 _).trans rfl) (Nat.le_of_ble_eq_true rfl) (Nat.le_of_ble_eq_true rfl) rfl ⟨Nat.le_of_ble_eq_true rfl, Nat.le_of_ble_eq_true rfl, Nat.le_of_ble_eq_true rfl, Nat.le_of_ble_eq_true rfl, Nat.le_of_ble_eq_true rfl⟩ rfl (m_a g1 hc1 hc3 hR1 (i := i) hi) (fun v9 h9 p9 => ?_)
        obtain ⟨e1, e2⟩ := p9
        subst e2
        replace e1 := e1.symm
        subst e1
        change RN 188 194 _ _ _ 0 0 _
        dsimp only [Option.toList, List.cons_append, List.nil_append]
        refine r_iast (hm := hm) (hf := rfl) (h28 := (by omega)) (hs := (by first | assumption | exact (g1.1 _).trans rfl)) (hi := rfl) (hn := (by omega)) (k := ?_)
        refine RN.abs (fun h1 => Sm (fun a k => regW a k ∨ a = 1113 ∨ a = 1114 ∨ (a = 1109 ∧ k = i) ∨ ((a = 1104 ∨ a = 1105) ∧ 20 * i ≤ k ∧ k < 20 * i + 20)) h h1 ∧ PgM h1 H q ∧ h1.2.1 1109 i = x.2.1 2 i) ⟨Sm.put S1 (by unfold regW; omega), hq.same (Sm.put (S := fun a k => a = 1109) Sm.refl rfl) (fun a k z => by unfold regW; omega), putI_eq⟩ (fun h1 H9 => ?_)
        clear hq v5 v6 v7 v8 vus vfp vlp vwr
        obtain ⟨S1, hq, eln⟩ := H9
        have g1 := S1.gg g
        have hc1 := (S1.2.2 1085 12 (by unfold regW; omega)).trans hc
        have hR1 := S1.repM (fun a k q9 => by unfold regW at q9; omega) hR
        obtain ⟨M0, M1, M2, M3, M4, Q0, Q1, Q2, S0, N0, N1⟩ := hR1.use
        obtain ⟨v5, v6, v7, v8, vus, vfp, vlp, vwr⟩ := id hq
        have ok4 := ok.rng (by omega)
        refine r_aload_n hm rfl (k := ?_)
        refine r_getI (hm := hm) (hf := rfl) (hd := rfl) (hs := (by first | assumption | exact (g1.1 _).trans rfl)) (hv := (by first | exact putI_eq | exact (putI_ne (by omega)).trans (by first | exact putI_eq | exact (putI_ne (by omega)).trans (by first | exact putI_eq | exact (putI_ne (by omega)).trans (by first | first | assumption | exact g1.2 _ _ _ rfl | exact vus _ (by omega) (by omega) | exact eLo _ (by omega) | exact eLp _ (by omega)) | first | assumption | exact g1.2 _ _ _ rfl | exact vus _ (by omega) (by omega) | exact eLo _ (by omega) | exact eLp _ (by omega)) | first | assumption | exact g1.2 _ _ _ rfl | exact vus _ (by omega) (by omega) | exact eLo _ (by omega) | exact eLp _ (by omega)) | first | assumption | exact g1.2 _ _ _ rfl | exact vus _ (by omega) (by omega) | exact eLo _ (by omega) | exact eLp _ (by omega))) (k := ?_)
        refine r_aload_n hm rfl (k := ?_)
        refine r_getI (hm := hm) (hf := rfl) (hd := rfl) (hs := (by first | assumption | exact (g1.1 _).trans rfl)) (hv := (by first | exact putI_eq | exact (putI_ne (by omega)).trans (by first | exact putI_eq | exact (putI_ne (by omega)).trans (by first | exact putI_eq | exact (putI_ne (by omega)).trans (by first | first | assumption | exact g1.2 _ _ _ rfl | exact vus _ (by omega) (by omega) | exact eLo _ (by omega) | exact eLp _ (by omega)) | first | assumption | exact g1.2 _ _ _ rfl | exact vus _ (by omega) (by omega) | exact eLo _ (by omega) | exact eLp _ (by omega)) | first | assumption | exact g1.2 _ _ _ rfl | exact vus _ (by omega) (by omega) | exact eLo _ (by omega) | exact eLp _ (by omega)) | first | assumption | exact g1.2 _ _ _ rfl | exact vus _ (by omega) (by omega) | exact eLo _ (by omega) | exact eLp _ (by omega))) (k := ?_)
        refine r_icmp_ne (t := 268) hm rfl rfl (fun c203 => ?_) (fun c203 => ?_)
        · refine r_aload_n hm rfl (k := ?_)
          refine r_getR (hm := hm) (hf := rfl) (hd := rfl) (hs := (by first | assumption | exact (g1.1 _).trans rfl)) (hv := (by first | exact putI_eq | exact (putI_ne (by omega)).trans (by first | exact putI_eq | exact (putI_ne (by omega)).trans (by first | exact putI_eq | exact (putI_ne (by omega)).trans (by first | first | assumption | exact g1.2 _ _ _ rfl | exact vus _ (by omega) (by omega) | exact eLo _ (by omega) | exact eLp _ (by omega)) | first | assumption | exact g1.2 _ _ _ rfl | exact vus _ (by omega) (by omega) | exact eLo _ (by omega) | exact eLp _ (by omega)) | first | assumption | exact g1.2 _ _ _ rfl | exact vus _ (by omega) (by omega) | exact eLo _ (by omega) | exact eLp _ (by omega)) | first | assumption | exact g1.2 _ _ _ rfl | exact vus _ (by omega) (by omega) | exact eLo _ (by omega) | exact eLp _ (by omega))) (k := ?_)
          refine r_aload_n hm rfl (k := ?_)
          refine r_getI (hm := hm) (hf := rfl) (hd := rfl) (hs := (by first | assumption | exact (g1.1 _).trans rfl)) (hv := (by first | exact putI_eq | exact (putI_ne (by omega)).trans (by first | exact putI_eq | exact (putI_ne (by omega)).trans (by first | exact putI_eq | exact (putI_ne (by omega)).trans (by first | first | assumption | exact g1.2 _ _ _ rfl | exact vus _ (by omega) (by omega) | exact eLo _ (by omega) | exact eLp _ (by omega)) | first | assumption | exact g1.2 _ _ _ rfl | exact vus _ (by omega) (by omega) | exact eLo _ (by omega) | exact eLp _ (by omega)) | first | assumption | exact g1.2 _ _ _ rfl | exact vus _ (by omega) (by omega) | exact eLo _ (by omega) | exact eLp _ (by omega)) | first | assumption | exact g1.2 _ _ _ rfl | exact vus _ (by omega) (by omega) | exact eLo _ (by omega) | exact eLp _ (by omega))) (k := ?_)
          refine r_iload_n hm rfl (k := ?_)
          refine r_iast (hm := hm) (hf := rfl) (h28 := (by omega)) (hs := (by first | assumption | exact (g1.1 _).trans rfl)) (hi := rfl) (hn := (by omega)) (k := ?_)
          refine r_aload_n hm rfl (k := ?_)
          refine r_dup hm rfl (k := ?_)
          refine r_getI (hm := hm) (hf := rfl) (hd := rfl) (hs := (by first | assumption | exact (g1.1 _).trans rfl)) (hv := (by first | exact putI_eq | exact (putI_ne (by omega)).trans (by first | exact putI_eq | exact (putI_ne (by omega)).trans (by first | exact putI_eq | exact (putI_ne (by omega)).trans (by first | first | assumption | exact g1.2 _ _ _ rfl | exact vus _ (by omega) (by omega) | exact eLo _ (by omega) | exact eLp _ (by omega)) | first | assumption | exact g1.2 _ _ _ rfl | exact vus _ (by omega) (by omega) | exact eLo _ (by omega) | exact eLp _ (by omega)) | first | assumption | exact g1.2 _ _ _ rfl | exact vus _ (by omega) (by omega) | exact eLo _ (by omega) | exact eLp _ (by omega)) | first | assumption | exact g1.2 _ _ _ rfl | exact vus _ (by omega) (by omega) | exact eLo _ (by omega) | exact eLp _ (by omega))) (k := ?_)
          refine r_iconst hm rfl (k := ?_)
          refine r_iadd hm rfl (hr := (by omega)) (k := ?_)
          refine r_putI (hm := hm) (hf := rfl) (hd := rfl) (hs := (by first | assumption | exact (g1.1 _).trans rfl)) (hfin := Or.inl rfl) (hz := fun q9 => absurd q9 (by decide)) (k := ?_)
          refine r_goto (t := 329) hm rfl (k := ?_)
          refine r_return hm rfl rfl (Nat.le_of_ble_eq_true rfl) (Nat.le_of_ble_eq_true rfl) ?_
          have eI : iS x H lt i q = (if q.2.2.2.2.1 = q.2.2.2.2.2.1 ∧ q.2.1 q.1 + x.2.1 2 i ≤ H then tk (se (sf q i) i) (x.2.1 2 i) else wa q i, fun _ => 0) := by
            unfold iS
            rw [if_neg (show ¬ x.2.1 1 i = 0 by omega), if_neg (show ¬ x.2.1 1 i = 1 by omega), if_pos (show x.2.1 1 i = 2 ∨ x.2.1 1 i = 3 by omega)]
          have eN : lnc x lt i = x.2.1 2 i := by
            unfold lnc
            rw [if_neg (show ¬ x.2.1 1 i = 0 by omega), if_neg (show ¬ x.2.1 1 i = 1 by omega), if_pos (show x.2.1 1 i = 2 ∨ x.2.1 1 i = 3 by omega)]
          rw [eI, eN]
          rw [if_neg (by omega)]
          refine ⟨Sm.put (Sm.put S1 (by unfold regW; omega)) (by unfold regW; omega), ?_, ?_, fun k hk => by omega, rfl⟩
          · unfold PgM
            simp (disch := omega) only [putI_fne, putI_feq, upf_ne, upf_eq]
            exact hq.wa
          · simp (disch := omega) only [putI_fne, putI_feq, upf_ne, upf_eq]
            exact eln
        · refine r_aload_n hm rfl (k := ?_)
          refine r_getR (hm := hm) (hf := rfl) (hd := rfl) (hs := (by first | assumption | exact (g1.1 _).trans rfl)) (hv := (by first | exact putI_eq | exact (putI_ne (by omega)).trans (by first | exact putI_eq | exact (putI_ne (by omega)).trans (by first | exact putI_eq | exact (putI_ne (by omega)).trans (by first | first | assumption | exact g1.2 _ _ _ rfl | exact vus _ (by omega) (by omega) | exact eLo _ (by omega) | exact eLp _ (by omega)) | first | assumption | exact g1.2 _ _ _ rfl | exact vus _ (by omega) (by omega) | exact eLo _ (by omega) | exact eLp _ (by omega)) | first | assumption | exact g1.2 _ _ _ rfl | exact vus _ (by omega) (by omega) | exact eLo _ (by omega) | exact eLp _ (by omega)) | first | assumption | exact g1.2 _ _ _ rfl | exact vus _ (by omega) (by omega) | exact eLo _ (by omega) | exact eLp _ (by omega))) (k := ?_)
          refine r_aload_n hm rfl (k := ?_)
          refine r_getI (hm := hm) (hf := rfl) (hd := rfl) (hs := (by first | assumption | exact (g1.1 _).trans rfl)) (hv := (by first | exact putI_eq | exact (putI_ne (by omega)).trans (by first | exact putI_eq | exact (putI_ne (by omega)).trans (by first | exact putI_eq | exact (putI_ne (by omega)).trans (by first | first | assumption | exact g1.2 _ _ _ rfl | exact vus _ (by omega) (by omega) | exact eLo _ (by omega) | exact eLp _ (by omega)) | first | assumption | exact g1.2 _ _ _ rfl | exact vus _ (by omega) (by omega) | exact eLo _ (by omega) | exact eLp _ (by omega)) | first | assumption | exact g1.2 _ _ _ rfl | exact vus _ (by omega) (by omega) | exact eLo _ (by omega) | exact eLp _ (by omega)) | first | assumption | exact g1.2 _ _ _ rfl | exact vus _ (by omega) (by omega) | exact eLo _ (by omega) | exact eLp _ (by omega))) (k := ?_)
          refine r_iald (hm := hm) (hf := rfl) (hs := (by first | assumption | exact (g1.1 _).trans rfl)) (hi := rfl) (hn := (by omega)) (hv := (by first | exact putI_eq | exact (putI_ne (by omega)).trans (by first | exact putI_eq | exact (putI_ne (by omega)).trans (by first | exact putI_eq | exact (putI_ne (by omega)).trans (by first | first | assumption | exact g1.2 _ _ _ rfl | exact vus _ (by omega) (by omega) | exact eLo _ (by omega) | exact eLp _ (by omega)) | first | assumption | exact g1.2 _ _ _ rfl | exact vus _ (by omega) (by omega) | exact eLo _ (by omega) | exact eLp _ (by omega)) | first | assumption | exact g1.2 _ _ _ rfl | exact vus _ (by omega) (by omega) | exact eLo _ (by omega) | exact eLp _ (by omega)) | first | assumption | exact g1.2 _ _ _ rfl | exact vus _ (by omega) (by omega) | exact eLo _ (by omega) | exact eLp _ (by omega))) (k := ?_)
          refine r_aload_n hm rfl (k := ?_)
          refine r_iload_n hm rfl (k := ?_)
          refine r_callv (j2 := 175) hm rfl rfl rfl rfl rfl rfl (by first | assumption | exact (g1.1 _).trans rfl) (Nat.le_of_ble_eq_true rfl) (Nat.le_of_ble_eq_true rfl) rfl ⟨Nat.le_of_ble_eq_true rfl, Nat.le_of_ble_eq_true rfl, Nat.le_of_ble_eq_true rfl, Nat.le_of_ble_eq_true rfl, Nat.le_of_ble_eq_true rfl⟩ rfl (m_a g1 hc1 hc3 hR1 (i := i) hi) (fun v9 h9 p9 => ?_)
          obtain ⟨e1, e2⟩ := p9
          subst e2
          replace e1 := e1.symm
          subst e1
          change RN 188 220 _ _ _ 0 0 _
          dsimp only [Option.toList, List.cons_append, List.nil_append]
          refine r_iadd hm rfl (hr := (by omega)) (k := ?_)
          refine r_aload_n hm rfl (k := ?_)
          refine r_getI (hm := hm) (hf := rfl) (hd := rfl) (hs := (by first | assumption | exact (g1.1 _).trans rfl)) (hv := (by first | exact putI_eq | exact (putI_ne (by omega)).trans (by first | exact putI_eq | exact (putI_ne (by omega)).trans (by first | exact putI_eq | exact (putI_ne (by omega)).trans (by first | first | assumption | exact g1.2 _ _ _ rfl | exact vus _ (by omega) (by omega) | exact eLo _ (by omega) | exact eLp _ (by omega)) | first | assumption | exact g1.2 _ _ _ rfl | exact vus _ (by omega) (by omega) | exact eLo _ (by omega) | exact eLp _ (by omega)) | first | assumption | exact g1.2 _ _ _ rfl | exact vus _ (by omega) (by omega) | exact eLo _ (by omega) | exact eLp _ (by omega)) | first | assumption | exact g1.2 _ _ _ rfl | exact vus _ (by omega) (by omega) | exact eLo _ (by omega) | exact eLp _ (by omega))) (k := ?_)
          refine r_icmp_gt (t := 268) hm rfl rfl (fun c225 => ?_) (fun c225 => ?_)
          · refine r_aload_n hm rfl (k := ?_)
            refine r_getR (hm := hm) (hf := rfl) (hd := rfl) (hs := (by first | assumption | exact (g1.1 _).trans rfl)) (hv := (by first | exact putI_eq | exact (putI_ne (by omega)).trans (by first | exact putI_eq | exact (putI_ne (by omega)).trans (by first | exact putI_eq | exact (putI_ne (by omega)).trans (by first | first | assumption | exact g1.2 _ _ _ rfl | exact vus _ (by omega) (by omega) | exact eLo _ (by omega) | exact eLp _ (by omega)) | first | assumption | exact g1.2 _ _ _ rfl | exact vus _ (by omega) (by omega) | exact eLo _ (by omega) | exact eLp _ (by omega)) | first | assumption | exact g1.2 _ _ _ rfl | exact vus _ (by omega) (by omega) | exact eLo _ (by omega) | exact eLp _ (by omega)) | first | assumption | exact g1.2 _ _ _ rfl | exact vus _ (by omega) (by omega) | exact eLo _ (by omega) | exact eLp _ (by omega))) (k := ?_)
            refine r_aload_n hm rfl (k := ?_)
            refine r_getI (hm := hm) (hf := rfl) (hd := rfl) (hs := (by first | assumption | exact (g1.1 _).trans rfl)) (hv := (by first | exact putI_eq | exact (putI_ne (by omega)).trans (by first | exact putI_eq | exact (putI_ne (by omega)).trans (by first | exact putI_eq | exact (putI_ne (by omega)).trans (by first | first | assumption | exact g1.2 _ _ _ rfl | exact vus _ (by omega) (by omega) | exact eLo _ (by omega) | exact eLp _ (by omega)) | first | assumption | exact g1.2 _ _ _ rfl | exact vus _ (by omega) (by omega) | exact eLo _ (by omega) | exact eLp _ (by omega)) | first | assumption | exact g1.2 _ _ _ rfl | exact vus _ (by omega) (by omega) | exact eLo _ (by omega) | exact eLp _ (by omega)) | first | assumption | exact g1.2 _ _ _ rfl | exact vus _ (by omega) (by omega) | exact eLo _ (by omega) | exact eLp _ (by omega))) (k := ?_)
            refine r_iload_n hm rfl (k := ?_)
            refine r_iast (hm := hm) (hf := rfl) (h28 := (by omega)) (hs := (by first | assumption | exact (g1.1 _).trans rfl)) (hi := rfl) (hn := (by omega)) (k := ?_)
            refine r_aload_n hm rfl (k := ?_)
            refine r_dup hm rfl (k := ?_)
            refine r_getI (hm := hm) (hf := rfl) (hd := rfl) (hs := (by first | assumption | exact (g1.1 _).trans rfl)) (hv := (by first | exact putI_eq | exact (putI_ne (by omega)).trans (by first | exact putI_eq | exact (putI_ne (by omega)).trans (by first | exact putI_eq | exact (putI_ne (by omega)).trans (by first | first | assumption | exact g1.2 _ _ _ rfl | exact vus _ (by omega) (by omega) | exact eLo _ (by omega) | exact eLp _ (by omega)) | first | assumption | exact g1.2 _ _ _ rfl | exact vus _ (by omega) (by omega) | exact eLo _ (by omega) | exact eLp _ (by omega)) | first | assumption | exact g1.2 _ _ _ rfl | exact vus _ (by omega) (by omega) | exact eLo _ (by omega) | exact eLp _ (by omega)) | first | assumption | exact g1.2 _ _ _ rfl | exact vus _ (by omega) (by omega) | exact eLo _ (by omega) | exact eLp _ (by omega))) (k := ?_)
            refine r_iconst hm rfl (k := ?_)
            refine r_iadd hm rfl (hr := (by omega)) (k := ?_)
            refine r_putI (hm := hm) (hf := rfl) (hd := rfl) (hs := (by first | assumption | exact (g1.1 _).trans rfl)) (hfin := Or.inl rfl) (hz := fun q9 => absurd q9 (by decide)) (k := ?_)
            refine r_goto (t := 329) hm rfl (k := ?_)
            refine r_return hm rfl rfl (Nat.le_of_ble_eq_true rfl) (Nat.le_of_ble_eq_true rfl) ?_
            have eI : iS x H lt i q = (if q.2.2.2.2.1 = q.2.2.2.2.2.1 ∧ q.2.1 q.1 + x.2.1 2 i ≤ H then tk (se (sf q i) i) (x.2.1 2 i) else wa q i, fun _ => 0) := by
              unfold iS
              rw [if_neg (show ¬ x.2.1 1 i = 0 by omega), if_neg (show ¬ x.2.1 1 i = 1 by omega), if_pos (show x.2.1 1 i = 2 ∨ x.2.1 1 i = 3 by omega)]
            have eN : lnc x lt i = x.2.1 2 i := by
              unfold lnc
              rw [if_neg (show ¬ x.2.1 1 i = 0 by omega), if_neg (show ¬ x.2.1 1 i = 1 by omega), if_pos (show x.2.1 1 i = 2 ∨ x.2.1 1 i = 3 by omega)]
            rw [eI, eN]
            rw [if_neg (by omega)]
            refine ⟨Sm.put (Sm.put S1 (by unfold regW; omega)) (by unfold regW; omega), ?_, ?_, fun k hk => by omega, rfl⟩
            · unfold PgM
              simp (disch := omega) only [putI_fne, putI_feq, upf_ne, upf_eq]
              exact hq.wa
            · simp (disch := omega) only [putI_fne, putI_feq, upf_ne, upf_eq]
              exact eln
          · refine r_aload_n hm rfl (k := ?_)
            refine r_getR (hm := hm) (hf := rfl) (hd := rfl) (hs := (by first | assumption | exact (g1.1 _).trans rfl)) (hv := (by first | exact putI_eq | exact (putI_ne (by omega)).trans (by first | exact putI_eq | exact (putI_ne (by omega)).trans (by first | exact putI_eq | exact (putI_ne (by omega)).trans (by first | first | assumption | exact g1.2 _ _ _ rfl | exact vus _ (by omega) (by omega) | exact eLo _ (by omega) | exact eLp _ (by omega)) | first | assumption | exact g1.2 _ _ _ rfl | exact vus _ (by omega) (by omega) | exact eLo _ (by omega) | exact eLp _ (by omega)) | first | assumption | exact g1.2 _ _ _ rfl | exact vus _ (by omega) (by omega) | exact eLo _ (by omega) | exact eLp _ (by omega)) | first | assumption | exact g1.2 _ _ _ rfl | exact vus _ (by omega) (by omega) | exact eLo _ (by omega) | exact eLp _ (by omega))) (k := ?_)
            refine r_iload_n hm rfl (k := ?_)
            refine r_aload_n hm rfl (k := ?_)
            refine r_getI (hm := hm) (hf := rfl) (hd := rfl) (hs := (by first | assumption | exact (g1.1 _).trans rfl)) (hv := (by first | exact putI_eq | exact (putI_ne (by omega)).trans (by first | exact putI_eq | exact (putI_ne (by omega)).trans (by first | exact putI_eq | exact (putI_ne (by omega)).trans (by first | first | assumption | exact g1.2 _ _ _ rfl | exact vus _ (by omega) (by omega) | exact eLo _ (by omega) | exact eLp _ (by omega)) | first | assumption | exact g1.2 _ _ _ rfl | exact vus _ (by omega) (by omega) | exact eLo _ (by omega) | exact eLp _ (by omega)) | first | assumption | exact g1.2 _ _ _ rfl | exact vus _ (by omega) (by omega) | exact eLo _ (by omega) | exact eLp _ (by omega)) | first | assumption | exact g1.2 _ _ _ rfl | exact vus _ (by omega) (by omega) | exact eLo _ (by omega) | exact eLp _ (by omega))) (k := ?_)
            refine r_iast (hm := hm) (hf := rfl) (h28 := (by omega)) (hs := (by first | assumption | exact (g1.1 _).trans rfl)) (hi := rfl) (hn := (by omega)) (k := ?_)
            refine r_aload_n hm rfl (k := ?_)
            refine r_getR (hm := hm) (hf := rfl) (hd := rfl) (hs := (by first | assumption | exact (g1.1 _).trans rfl)) (hv := (by first | exact putI_eq | exact (putI_ne (by omega)).trans (by first | exact putI_eq | exact (putI_ne (by omega)).trans (by first | exact putI_eq | exact (putI_ne (by omega)).trans (by first | first | assumption | exact g1.2 _ _ _ rfl | exact vus _ (by omega) (by omega) | exact eLo _ (by omega) | exact eLp _ (by omega)) | first | assumption | exact g1.2 _ _ _ rfl | exact vus _ (by omega) (by omega) | exact eLo _ (by omega) | exact eLp _ (by omega)) | first | assumption | exact g1.2 _ _ _ rfl | exact vus _ (by omega) (by omega) | exact eLo _ (by omega) | exact eLp _ (by omega)) | first | assumption | exact g1.2 _ _ _ rfl | exact vus _ (by omega) (by omega) | exact eLo _ (by omega) | exact eLp _ (by omega))) (k := ?_)
            refine r_iload_n hm rfl (k := ?_)
            refine r_aload_n hm rfl (k := ?_)
            refine r_getI (hm := hm) (hf := rfl) (hd := rfl) (hs := (by first | assumption | exact (g1.1 _).trans rfl)) (hv := (by first | exact putI_eq | exact (putI_ne (by omega)).trans (by first | exact putI_eq | exact (putI_ne (by omega)).trans (by first | exact putI_eq | exact (putI_ne (by omega)).trans (by first | first | assumption | exact g1.2 _ _ _ rfl | exact vus _ (by omega) (by omega) | exact eLo _ (by omega) | exact eLp _ (by omega)) | first | assumption | exact g1.2 _ _ _ rfl | exact vus _ (by omega) (by omega) | exact eLo _ (by omega) | exact eLp _ (by omega)) | first | assumption | exact g1.2 _ _ _ rfl | exact vus _ (by omega) (by omega) | exact eLo _ (by omega) | exact eLp _ (by omega)) | first | assumption | exact g1.2 _ _ _ rfl | exact vus _ (by omega) (by omega) | exact eLo _ (by omega) | exact eLp _ (by omega))) (k := ?_)
            refine r_iast (hm := hm) (hf := rfl) (h28 := (by omega)) (hs := (by first | assumption | exact (g1.1 _).trans rfl)) (hi := rfl) (hn := (by omega)) (k := ?_)
            have SA := Sm.put (v := (q.1 : Int)) (Sm.put (v := (q.1 : Int)) S1 (show (fun a k => regW a k ∨ a = 1113 ∨ a = 1114 ∨ (a = 1109 ∧ k = i) ∨ ((a = 1104 ∨ a = 1105) ∧ 20 * i ≤ k ∧ k < 20 * i + 20)) 1107 i by unfold regW; omega)) (show (fun a k => regW a k ∨ a = 1113 ∨ a = 1114 ∨ (a = 1109 ∧ k = i) ∨ ((a = 1104 ∨ a = 1105) ∧ 20 * i ≤ k ∧ k < 20 * i + 20)) 1108 i by unfold regW; omega)
            refine r_aload_n hm rfl (k := ?_)
            refine r_getR (hm := hm) (hf := rfl) (hd := rfl) (hs := (by first | assumption | exact (g1.1 _).trans rfl)) (hv := (by first | exact putI_eq | exact (putI_ne (by omega)).trans (by first | exact putI_eq | exact (putI_ne (by omega)).trans (by first | exact putI_eq | exact (putI_ne (by omega)).trans (by first | first | assumption | exact g1.2 _ _ _ rfl | exact vus _ (by omega) (by omega) | exact eLo _ (by omega) | exact eLp _ (by omega)) | first | assumption | exact g1.2 _ _ _ rfl | exact vus _ (by omega) (by omega) | exact eLo _ (by omega) | exact eLp _ (by omega)) | first | assumption | exact g1.2 _ _ _ rfl | exact vus _ (by omega) (by omega) | exact eLo _ (by omega) | exact eLp _ (by omega)) | first | assumption | exact g1.2 _ _ _ rfl | exact vus _ (by omega) (by omega) | exact eLo _ (by omega) | exact eLp _ (by omega))) (k := ?_)
            refine r_aload_n hm rfl (k := ?_)
            refine r_getI (hm := hm) (hf := rfl) (hd := rfl) (hs := (by first | assumption | exact (g1.1 _).trans rfl)) (hv := (by first | exact putI_eq | exact (putI_ne (by omega)).trans (by first | exact putI_eq | exact (putI_ne (by omega)).trans (by first | exact putI_eq | exact (putI_ne (by omega)).trans (by first | first | assumption | exact g1.2 _ _ _ rfl | exact vus _ (by omega) (by omega) | exact eLo _ (by omega) | exact eLp _ (by omega)) | first | assumption | exact g1.2 _ _ _ rfl | exact vus _ (by omega) (by omega) | exact eLo _ (by omega) | exact eLp _ (by omega)) | first | assumption | exact g1.2 _ _ _ rfl | exact vus _ (by omega) (by omega) | exact eLo _ (by omega) | exact eLp _ (by omega)) | first | assumption | exact g1.2 _ _ _ rfl | exact vus _ (by omega) (by omega) | exact eLo _ (by omega) | exact eLp _ (by omega))) (k := ?_)
            refine r_dup2 hm rfl (k := ?_)
            refine r_iald (hm := hm) (hf := rfl) (hs := (by first | assumption | exact (g1.1 _).trans rfl)) (hi := rfl) (hn := (by omega)) (hv := (by first | exact putI_eq | exact (putI_ne (by omega)).trans (by first | exact putI_eq | exact (putI_ne (by omega)).trans (by first | exact putI_eq | exact (putI_ne (by omega)).trans (by first | first | assumption | exact g1.2 _ _ _ rfl | exact vus _ (by omega) (by omega) | exact eLo _ (by omega) | exact eLp _ (by omega)) | first | assumption | exact g1.2 _ _ _ rfl | exact vus _ (by omega) (by omega) | exact eLo _ (by omega) | exact eLp _ (by omega)) | first | assumption | exact g1.2 _ _ _ rfl | exact vus _ (by omega) (by omega) | exact eLo _ (by omega) | exact eLp _ (by omega)) | first | assumption | exact g1.2 _ _ _ rfl | exact vus _ (by omega) (by omega) | exact eLo _ (by omega) | exact eLp _ (by omega))) (k := ?_)
            refine r_aload_n hm rfl (k := ?_)
            refine r_iload_n hm rfl (k := ?_)
            refine r_callv (j2 := 175) hm rfl rfl rfl rfl rfl rfl (by first | assumption | exact (g1.1 _).trans rfl) (Nat.le_of_ble_eq_true rfl) (Nat.le_of_ble_eq_true rfl) rfl ⟨Nat.le_of_ble_eq_true rfl, Nat.le_of_ble_eq_true rfl, Nat.le_of_ble_eq_true rfl, Nat.le_of_ble_eq_true rfl, Nat.le_of_ble_eq_true rfl⟩ rfl (m_a (SA.gg g) ((SA.2.2 1085 12 (by unfold regW; omega)).trans hc) hc3 (SA.repM (fun a k q9 => by unfold regW at q9; omega) hR) (i := i) hi) (fun v9 h9 p9 => ?_)
            obtain ⟨e1, e2⟩ := p9
            subst e2
            replace e1 := e1.symm
            subst e1
            change RN 188 263 _ _ _ 0 0 _
            dsimp only [Option.toList, List.cons_append, List.nil_append]
            refine r_iadd hm rfl (hr := (by omega)) (k := ?_)
            refine r_iast (hm := hm) (hf := rfl) (h28 := (by omega)) (hs := (by first | assumption | exact (g1.1 _).trans rfl)) (hi := rfl) (hn := (by omega)) (k := ?_)
            refine r_goto (t := 329) hm rfl (k := ?_)
            refine r_return hm rfl rfl (Nat.le_of_ble_eq_true rfl) (Nat.le_of_ble_eq_true rfl) ?_
            have eI : iS x H lt i q = (if q.2.2.2.2.1 = q.2.2.2.2.2.1 ∧ q.2.1 q.1 + x.2.1 2 i ≤ H then tk (se (sf q i) i) (x.2.1 2 i) else wa q i, fun _ => 0) := by
              unfold iS
              rw [if_neg (show ¬ x.2.1 1 i = 0 by omega), if_neg (show ¬ x.2.1 1 i = 1 by omega), if_pos (show x.2.1 1 i = 2 ∨ x.2.1 1 i = 3 by omega)]
            have eN : lnc x lt i = x.2.1 2 i := by
              unfold lnc
              rw [if_neg (show ¬ x.2.1 1 i = 0 by omega), if_neg (show ¬ x.2.1 1 i = 1 by omega), if_pos (show x.2.1 1 i = 2 ∨ x.2.1 1 i = 3 by omega)]
            rw [eI, eN]
            rw [if_pos (by omega)]
            refine ⟨(Sm.put (Sm.put (Sm.put S1 (by unfold regW; omega)) (by unfold regW; omega)) (by unfold regW; omega)), ?_, ?_, fun k hk => by omega, rfl⟩
            · unfold PgM
              simp (disch := omega) only [putI_fne, putI_feq, upf_ne, upf_eq]
              exact hq.sf.se.tk
            · simp (disch := omega) only [putI_fne, putI_feq, upf_ne, upf_eq]
              exact eln
    · have qF := m_findLines g1 hc1 hc3 hR1 hok hl hi hr (fun k hk => hLt k hk)
      refine r_aload_n hm rfl (k := ?_)
      refine r_iload_n hm rfl (k := ?_)
      refine r_aload_n hm rfl (k := ?_)
      refine r_iload_n hm rfl (k := ?_)
      refine r_iload_n hm rfl (k := ?_)
      refine r_callv (j2 := 192) hm rfl rfl rfl rfl rfl rfl (by first | assumption | exact (g1.1 _).trans rfl) (Nat.le_of_ble_eq_true rfl) (Nat.le_of_ble_eq_true rfl) rfl ⟨Nat.le_of_ble_eq_true rfl, Nat.le_of_ble_eq_true rfl, Nat.le_of_ble_eq_true rfl, Nat.le_of_ble_eq_true rfl, Nat.le_of_ble_eq_true rfl⟩ rfl (qF) (fun v9 hB p9 => ?_)
      obtain ⟨SB, nB, loB, e1⟩ := p9
      subst e1
      obtain ⟨nl1, nl2, nl3⟩ := nli_le hok hl hi
      have hqF := hq.same SB (fun a k z => by unfold regW; omega)
      replace S1 : Sm (fun a k => regW a k ∨ a = 1113 ∨ a = 1114 ∨ (a = 1109 ∧ k = i) ∨ ((a = 1104 ∨ a = 1105) ∧ 20 * i ≤ k ∧ k < 20 * i + 20)) h hB := S1.trans (SB.mono (fun a k z => by omega))
      have g1 := S1.gg g
      have hc1 := (S1.2.2 1085 12 (by unfold regW; omega)).trans hc
      have hR1 := S1.repM (fun a k q9 => by unfold regW at q9; omega) hR
      obtain ⟨M0, M1, M2, M3, M4, Q0, Q1, Q2, S0, N0, N1⟩ := hR1.use
      have capE : cap x i = pcs x i := by unfold cap; rw [if_pos (by omega)]
      have qL := m_setLines g1 hc1 hc3 hR1 hH hqF ok (nl := nli x lt i) (nd := ndi x lt i) (by omega) (by omega) hi (by omega) nl2 nB
      change RN 188 125 _ _ _ 0 0 _
      dsimp only [Option.toList, List.cons_append, List.nil_append]
      refine r_callv (j2 := 193) hm rfl rfl rfl rfl rfl rfl (by first | assumption | exact (g1.1 _).trans rfl) (Nat.le_of_ble_eq_true rfl) (Nat.le_of_ble_eq_true rfl) rfl ⟨Nat.le_of_ble_eq_true rfl, Nat.le_of_ble_eq_true rfl, Nat.le_of_ble_eq_true rfl, Nat.le_of_ble_eq_true rfl, Nat.le_of_ble_eq_true rfl⟩ rfl (qL) (fun v9 hC p9 => ?_)
      obtain ⟨SC, hqC, lpC, elE, e1⟩ := p9
      subst e1
      have loC : ∀ k, k < pcs x i → hC.2.1 1104 (20 * i + k) = (loi x lt i k : Int) := fun k hk => (SC.2.2 _ _ (by unfold regW; omega)).trans (loB k hk)
      replace S1 : Sm (fun a k => regW a k ∨ a = 1113 ∨ a = 1114 ∨ (a = 1109 ∧ k = i) ∨ ((a = 1104 ∨ a = 1105) ∧ 20 * i ≤ k ∧ k < 20 * i + 20)) h hC := S1.trans (SC.mono (fun a k z => by unfold regW at z ⊢; omega))
      change RN 188 128 _ _ _ 0 0 _
      dsimp only [Option.toList, List.nil_append]
      refine r_iconst hm rfl (k := ?_)
      refine r_istore hm rfl (k := ?_)
      suffices LP : ∀ (d k : Nat) (h1 : Hp), k + d = pcs x i → Sm (fun a k => regW a k ∨ a = 1113 ∨ a = 1114 ∨ (a = 1109 ∧ k = i) ∨ ((a = 1104 ∨ a = 1105) ∧ 20 * i ≤ k ∧ k < 20 * i + 20)) h h1 → PgM h1 H (lls x H i (nli x lt i) (ndi x lt i) q).1 → h1.2.1 1109 i = (nli x lt i : Int) → (∀ k, k < pcs x i → h1.2.1 1104 (20 * i + k) = (loi x lt i k : Int)) → (∀ l, l < nli x lt i → h1.2.1 1114 l = (lls x H i (nli x lt i) (ndi x lt i) q).2 l) → (∀ k2, k2 < k → h1.2.1 1105 (20 * i + k2) = (lls x H i (nli x lt i) (ndi x lt i) q).2 (loi x lt i k2)) → RN 188 131 [some (.inr (.inr (some 1085))), some (.inl (i : Int)), some (.inl (r : Int)), some (.inl (x.2.1 1 i)), some (.inl (k : Int)), none] [] h1 0 0 (fun v h2 => Sm (fun a k => regW a k ∨ a = 1113 ∨ a = 1114 ∨ (a = 1109 ∧ k = i) ∨ ((a = 1104 ∨ a = 1105) ∧ 20 * i ≤ k ∧ k < 20 * i + 20)) h h2 ∧ PgM h2 H (iS x H lt i q).1 ∧ h2.2.1 1109 i = lnc x lt i ∧ (∀ k, k < pcs x i → h2.2.1 1104 (20 * i + k) = (loi x lt i k : Int) ∧ h2.2.1 1105 (20 * i + k) = (iS x H lt i q).2 k) ∧ v = none) from LP (pcs x i) 0 _ (by omega) S1 hqC elE loC lpC (fun k hk => by omega)
      clear hq hqF hqC elE loC lpC S1 SB SC
      refine fun d => Nat.strongRecOn d (fun d ih => ?_)
      intro k h1 hd S1 hq elE eLo eLp ePp
      have g1 := S1.gg g
      have hc1 := (S1.2.2 1085 12 (by unfold regW; omega)).trans hc
      have hR1 := S1.repM (fun a k q9 => by unfold regW at q9; omega) hR
      obtain ⟨M0, M1, M2, M3, M4, Q0, Q1, Q2, S0, N0, N1⟩ := hR1.use
      refine r_iload hm rfl (k := ?_)
      refine r_aload_n hm rfl (k := ?_)
      refine r_iload_n hm rfl (k := ?_)
      refine r_callv (j2 := 181) hm rfl rfl rfl rfl rfl rfl (by first | assumption | exact (g1.1 _).trans rfl) (Nat.le_of_ble_eq_true rfl) (Nat.le_of_ble_eq_true rfl) rfl ⟨Nat.le_of_ble_eq_true rfl, Nat.le_of_ble_eq_true rfl, Nat.le_of_ble_eq_true rfl, Nat.le_of_ble_eq_true rfl, Nat.le_of_ble_eq_true rfl⟩ rfl (m_piecesOf g1 hc1 hc3 hR1 (i := i) hi) (fun v9 h9 p9 => ?_)
      obtain ⟨e1, e2⟩ := p9
      subst e2
      replace e1 := e1.symm
      subst e1
      change RN 188 138 _ _ _ 0 0 _
      dsimp only [Option.toList, List.cons_append, List.nil_append]
      refine r_icmp_ge (t := 176) hm rfl rfl (fun c138 => ?_) (fun c138 => ?_)
      · refine r_goto (t := 329) hm rfl (k := ?_)
        refine r_return hm rfl rfl (Nat.le_of_ble_eq_true rfl) (Nat.le_of_ble_eq_true rfl) ?_
        have eI : iS x H lt i q = ((lls x H i (nli x lt i) (ndi x lt i) q).1, fun k => (lls x H i (nli x lt i) (ndi x lt i) q).2 (loi x lt i k)) := by
          unfold iS
          rw [if_neg (show ¬ x.2.1 1 i = 0 by omega), if_pos (show x.2.1 1 i = 1 by omega)]
        have eN : lnc x lt i = (nli x lt i : Int) := by
          unfold lnc
          rw [if_neg (show ¬ x.2.1 1 i = 0 by omega), if_pos (show x.2.1 1 i = 1 by omega)]
        rw [eI, eN]
        exact ⟨S1, hq, elE, fun k9 hk9 => ⟨eLo k9 hk9, ePp k9 (by omega)⟩, rfl⟩
      · have el3 := nl3 k (by omega)
        refine r_aload_n hm rfl (k := ?_)
        refine r_getR (hm := hm) (hf := rfl) (hd := rfl) (hs := (by first | assumption | exact (g1.1 _).trans rfl)) (hv := (by first | exact putI_eq | exact (putI_ne (by omega)).trans (by first | exact putI_eq | exact (putI_ne (by omega)).trans (by first | exact putI_eq | exact (putI_ne (by omega)).trans (by first | first | assumption | exact g1.2 _ _ _ rfl | exact vus _ (by omega) (by omega) | exact eLo _ (by omega) | exact eLp _ (by omega)) | first | assumption | exact g1.2 _ _ _ rfl | exact vus _ (by omega) (by omega) | exact eLo _ (by omega) | exact eLp _ (by omega)) | first | assumption | exact g1.2 _ _ _ rfl | exact vus _ (by omega) (by omega) | exact eLo _ (by omega) | exact eLp _ (by omega)) | first | assumption | exact g1.2 _ _ _ rfl | exact vus _ (by omega) (by omega) | exact eLo _ (by omega) | exact eLp _ (by omega))) (k := ?_)
        refine r_bipush hm rfl (k := ?_)
        refine r_iload_n hm rfl (k := ?_)
        refine r_imul hm rfl (hr := (by omega)) (k := ?_)
        refine r_iload hm rfl (k := ?_)
        refine r_iadd hm rfl (hr := (by omega)) (k := ?_)
        refine r_aload_n hm rfl (k := ?_)
        refine r_getR (hm := hm) (hf := rfl) (hd := rfl) (hs := (by first | assumption | exact (g1.1 _).trans rfl)) (hv := (by first | exact putI_eq | exact (putI_ne (by omega)).trans (by first | exact putI_eq | exact (putI_ne (by omega)).trans (by first | exact putI_eq | exact (putI_ne (by omega)).trans (by first | first | assumption | exact g1.2 _ _ _ rfl | exact vus _ (by omega) (by omega) | exact eLo _ (by omega) | exact eLp _ (by omega)) | first | assumption | exact g1.2 _ _ _ rfl | exact vus _ (by omega) (by omega) | exact eLo _ (by omega) | exact eLp _ (by omega)) | first | assumption | exact g1.2 _ _ _ rfl | exact vus _ (by omega) (by omega) | exact eLo _ (by omega) | exact eLp _ (by omega)) | first | assumption | exact g1.2 _ _ _ rfl | exact vus _ (by omega) (by omega) | exact eLo _ (by omega) | exact eLp _ (by omega))) (k := ?_)
        refine r_aload_n hm rfl (k := ?_)
        refine r_getR (hm := hm) (hf := rfl) (hd := rfl) (hs := (by first | assumption | exact (g1.1 _).trans rfl)) (hv := (by first | exact putI_eq | exact (putI_ne (by omega)).trans (by first | exact putI_eq | exact (putI_ne (by omega)).trans (by first | exact putI_eq | exact (putI_ne (by omega)).trans (by first | first | assumption | exact g1.2 _ _ _ rfl | exact vus _ (by omega) (by omega) | exact eLo _ (by omega) | exact eLp _ (by omega)) | first | assumption | exact g1.2 _ _ _ rfl | exact vus _ (by omega) (by omega) | exact eLo _ (by omega) | exact eLp _ (by omega)) | first | assumption | exact g1.2 _ _ _ rfl | exact vus _ (by omega) (by omega) | exact eLo _ (by omega) | exact eLp _ (by omega)) | first | assumption | exact g1.2 _ _ _ rfl | exact vus _ (by omega) (by omega) | exact eLo _ (by omega) | exact eLp _ (by omega))) (k := ?_)
        refine r_bipush hm rfl (k := ?_)
        refine r_iload_n hm rfl (k := ?_)
        refine r_imul hm rfl (hr := (by omega)) (k := ?_)
        refine r_iload hm rfl (k := ?_)
        refine r_iadd hm rfl (hr := (by omega)) (k := ?_)
        refine r_iald (hm := hm) (hf := rfl) (hs := (by first | assumption | exact (g1.1 _).trans rfl)) (kk := 20 * i + k) (hi := by omega) (hn := (by omega)) (hv := (by first | exact putI_eq | exact (putI_ne (by omega)).trans (by first | exact putI_eq | exact (putI_ne (by omega)).trans (by first | exact putI_eq | exact (putI_ne (by omega)).trans (by first | first | assumption | exact g1.2 _ _ _ rfl | exact vus _ (by omega) (by omega) | exact eLo _ (by omega) | exact eLp _ (by omega)) | first | assumption | exact g1.2 _ _ _ rfl | exact vus _ (by omega) (by omega) | exact eLo _ (by omega) | exact eLp _ (by omega)) | first | assumption | exact g1.2 _ _ _ rfl | exact vus _ (by omega) (by omega) | exact eLo _ (by omega) | exact eLp _ (by omega)) | first | assumption | exact g1.2 _ _ _ rfl | exact vus _ (by omega) (by omega) | exact eLo _ (by omega) | exact eLp _ (by omega))) (k := ?_)
        refine r_iald (hm := hm) (hf := rfl) (hs := (by first | assumption | exact (g1.1 _).trans rfl)) (kk := loi x lt i k) (hi := by omega) (hn := (by omega)) (hv := (by first | exact putI_eq | exact (putI_ne (by omega)).trans (by first | exact putI_eq | exact (putI_ne (by omega)).trans (by first | exact putI_eq | exact (putI_ne (by omega)).trans (by first | first | assumption | exact g1.2 _ _ _ rfl | exact vus _ (by omega) (by omega) | exact eLo _ (by omega) | exact eLp _ (by omega)) | first | assumption | exact g1.2 _ _ _ rfl | exact vus _ (by omega) (by omega) | exact eLo _ (by omega) | exact eLp _ (by omega)) | first | assumption | exact g1.2 _ _ _ rfl | exact vus _ (by omega) (by omega) | exact eLo _ (by omega) | exact eLp _ (by omega)) | first | assumption | exact g1.2 _ _ _ rfl | exact vus _ (by omega) (by omega) | exact eLo _ (by omega) | exact eLp _ (by omega))) (k := ?_)
        refine r_iast (hm := hm) (hf := rfl) (h28 := (by omega)) (hs := (by first | assumption | exact (g1.1 _).trans rfl)) (kk := 20 * i + k) (hi := by omega) (hn := (by omega)) (k := ?_)
        refine r_iinc hm rfl (hr := (by omega)) (k := ?_)
        refine r_goto (t := 131) hm rfl (k := ?_)
        refine ih (d - 1) (by omega) (k + 1) _ (by omega) (Sm.put S1 (by unfold regW; omega)) (hq.same (Sm.put (S := fun a k => a = 1105) Sm.refl rfl) (fun a k z => by unfold regW; omega)) (by rw [putI_ne (by omega)]; exact elE) (fun k2 hk2 => by rw [putI_ne (by omega)]; exact eLo k2 hk2) (fun l hl9 => by rw [putI_ne (by omega)]; exact eLp l hl9) (fun k2 hk2 => ?_)
        by_cases ek : k2 = k
        · subst ek
          exact putI_eq
        · rw [putI_ne (by omega)]
          exact ePp k2 (by omega)
  · refine r_aload_n hm rfl (k := ?_)
    refine r_iload_n hm rfl (k := ?_)
    refine r_callv (j2 := 175) hm rfl rfl rfl rfl rfl rfl (by first | assumption | exact (g1.1 _).trans rfl) (Nat.le_of_ble_eq_true rfl) (Nat.le_of_ble_eq_true rfl) rfl ⟨Nat.le_of_ble_eq_true rfl, Nat.le_of_ble_eq_true rfl, Nat.le_of_ble_eq_true rfl, Nat.le_of_ble_eq_true rfl, Nat.le_of_ble_eq_true rfl⟩ rfl (m_a g1 hc1 hc3 hR1 (i := i) hi) (fun v9 h9 p9 => ?_)
    obtain ⟨e1, e2⟩ := p9
    subst e2
    replace e1 := e1.symm
    subst e1
    change RN 188 15 _ _ _ 0 0 _
    dsimp only [Option.toList, List.cons_append, List.nil_append]
    refine r_iconst hm rfl (k := ?_)
    refine r_icmp_ne (t := 45) hm rfl rfl (fun c16 => ?_) (fun c16 => ?_)
    · have e39 : (if x.2.1 2 i = 1 ∧ x.2.2.2 12 = 1 ∧ q.2.1 q.1 ≠ 0 then tn x H q else q) = q := if_neg (by omega)
      have ok1 := hd_ok (x := x) (H := H) (p := x.2.1 2 i = 1 ∧ x.2.2.2 12 = 1 ∧ q.2.1 q.1 ≠ 0) hH (by omega) ok (fun e => e.2.2)
      rw [← e39] at hq
      refine r_aload_n hm rfl (k := ?_)
      refine r_getR (hm := hm) (hf := rfl) (hd := rfl) (hs := (by first | assumption | exact (g1.1 _).trans rfl)) (hv := (by first | exact putI_eq | exact (putI_ne (by omega)).trans (by first | exact putI_eq | exact (putI_ne (by omega)).trans (by first | exact putI_eq | exact (putI_ne (by omega)).trans (by first | first | assumption | exact g1.2 _ _ _ rfl | exact vus _ (by omega) (by omega) | exact eLo _ (by omega) | exact eLp _ (by omega)) | first | assumption | exact g1.2 _ _ _ rfl | exact vus _ (by omega) (by omega) | exact eLo _ (by omega) | exact eLp _ (by omega)) | first | assumption | exact g1.2 _ _ _ rfl | exact vus _ (by omega) (by omega) | exact eLo _ (by omega) | exact eLp _ (by omega)) | first | assumption | exact g1.2 _ _ _ rfl | exact vus _ (by omega) (by omega) | exact eLo _ (by omega) | exact eLp _ (by omega))) (k := ?_)
      refine r_iload_n hm rfl (k := ?_)
      refine r_aload_n hm rfl (k := ?_)
      refine r_iload_n hm rfl (k := ?_)
      refine r_callv (j2 := 175) hm rfl rfl rfl rfl rfl rfl (by first | assumption | exact (g1.1 _).trans rfl) (Nat.le_of_ble_eq_true rfl) (Nat.le_of_ble_eq_true rfl) rfl ⟨Nat.le_of_ble_eq_true rfl, Nat.le_of_ble_eq_true rfl, Nat.le_of_ble_eq_true rfl, Nat.le_of_ble_eq_true rfl, Nat.le_of_ble_eq_true rfl⟩ rfl (m_a g1 hc1 hc3 hR1 (i := i) hi) (fun v9 h9 p9 => ?_)
      obtain ⟨e1, e2⟩ := p9
      subst e2
      replace e1 := e1.symm
      subst e1
      change RN 188 55 _ _ _ 0 0 _
      dsimp only [Option.toList, List.cons_append, List.nil_append]
      refine r_calls (j2 := 190) hm rfl rfl rfl rfl rfl rfl (Nat.le_of_ble_eq_true rfl) (Nat.le_of_ble_eq_true rfl) rfl ⟨Nat.le_of_ble_eq_true rfl, Nat.le_of_ble_eq_true rfl, Nat.le_of_ble_eq_true rfl, Nat.le_of_ble_eq_true rfl, Nat.le_of_ble_eq_true rfl⟩ rfl (m_highOf) (fun v9 h9 p9 => ?_)
      obtain ⟨e1, e2⟩ := p9
      subst e2
      replace e1 := e1.symm
      subst e1
      change RN 188 58 _ _ _ 0 0 _
      dsimp only [Option.toList, List.cons_append, List.nil_append]
      refine r_iast (hm := hm) (hf := rfl) (h28 := (by omega)) (hs := (by first | assumption | exact (g1.1 _).trans rfl)) (hi := rfl) (hn := (by omega)) (k := ?_)
      refine RN.abs (fun h1 => Sm (fun a k => regW a k ∨ a = 1113 ∨ a = 1114 ∨ (a = 1109 ∧ k = i) ∨ ((a = 1104 ∨ a = 1105) ∧ 20 * i ≤ k ∧ k < 20 * i + 20)) h h1 ∧ PgM h1 H (if x.2.1 2 i = 1 ∧ x.2.2.2 12 = 1 ∧ q.2.1 q.1 ≠ 0 then tn x H q else q) ∧ h1.2.1 1109 i = hli (x.2.1 2 i)) ⟨Sm.put S1 (by unfold regW; omega), hq.same (Sm.put (S := fun a k => a = 1109) Sm.refl rfl) (fun a k z => by unfold regW; omega), putI_eq⟩ (fun h1 H9 => ?_)
      obtain ⟨S1, hqX, eln⟩ := H9
      have g1 := S1.gg g
      have hc1 := (S1.2.2 1085 12 (by unfold regW; omega)).trans hc
      have hR1 := S1.repM (fun a k q9 => by unfold regW at q9; omega) hR
      obtain ⟨M0, M1, M2, M3, M4, Q0, Q1, Q2, S0, N0, N1⟩ := hR1.use
      have qm := m_room g1 hc1 hc3 hR1 hH hqX ok1 (by omega) (by omega) (by omega) (n := hli (x.2.1 2 i) + 2) (by omega)
      obtain ⟨c1, c2, c3⟩ := rm_ok (n := hli (x.2.1 2 i) + 2) hH (by omega) ok1
      have c4 := c1.rng (by omega)
      refine r_aload_n hm rfl (k := ?_)
      refine r_aload_n hm rfl (k := ?_)
      refine r_getR (hm := hm) (hf := rfl) (hd := rfl) (hs := (by first | assumption | exact (g1.1 _).trans rfl)) (hv := (by first | exact putI_eq | exact (putI_ne (by omega)).trans (by first | exact putI_eq | exact (putI_ne (by omega)).trans (by first | exact putI_eq | exact (putI_ne (by omega)).trans (by first | first | assumption | exact g1.2 _ _ _ rfl | exact vus _ (by omega) (by omega) | exact eLo _ (by omega) | exact eLp _ (by omega)) | first | assumption | exact g1.2 _ _ _ rfl | exact vus _ (by omega) (by omega) | exact eLo _ (by omega) | exact eLp _ (by omega)) | first | assumption | exact g1.2 _ _ _ rfl | exact vus _ (by omega) (by omega) | exact eLo _ (by omega) | exact eLp _ (by omega)) | first | assumption | exact g1.2 _ _ _ rfl | exact vus _ (by omega) (by omega) | exact eLo _ (by omega) | exact eLp _ (by omega))) (k := ?_)
      refine r_iload_n hm rfl (k := ?_)
      refine r_iald (hm := hm) (hf := rfl) (hs := (by first | assumption | exact (g1.1 _).trans rfl)) (hi := rfl) (hn := (by omega)) (hv := (by first | exact putI_eq | exact (putI_ne (by omega)).trans (by first | exact putI_eq | exact (putI_ne (by omega)).trans (by first | exact putI_eq | exact (putI_ne (by omega)).trans (by first | first | assumption | exact g1.2 _ _ _ rfl | exact vus _ (by omega) (by omega) | exact eLo _ (by omega) | exact eLp _ (by omega)) | first | assumption | exact g1.2 _ _ _ rfl | exact vus _ (by omega) (by omega) | exact eLo _ (by omega) | exact eLp _ (by omega)) | first | assumption | exact g1.2 _ _ _ rfl | exact vus _ (by omega) (by omega) | exact eLo _ (by omega) | exact eLp _ (by omega)) | first | assumption | exact g1.2 _ _ _ rfl | exact vus _ (by omega) (by omega) | exact eLo _ (by omega) | exact eLp _ (by omega))) (k := ?_)
      refine r_iconst hm rfl (k := ?_)
      refine r_iadd hm rfl (hr := (by omega)) (k := ?_)
      refine r_callv (j2 := 191) hm rfl rfl rfl rfl rfl rfl (by first | assumption | exact (g1.1 _).trans rfl) (Nat.le_of_ble_eq_true rfl) (Nat.le_of_ble_eq_true rfl) rfl ⟨Nat.le_of_ble_eq_true rfl, Nat.le_of_ble_eq_true rfl, Nat.le_of_ble_eq_true rfl, Nat.le_of_ble_eq_true rfl, Nat.le_of_ble_eq_true rfl⟩ rfl (qm) (fun v9 hB p9 => ?_)
      obtain ⟨SB, hqB, e1⟩ := p9
      subst e1
      replace eln : hB.2.1 1109 i = hli (x.2.1 2 i) := (SB.2.2 _ _ (by unfold regW; omega)).trans eln
      replace S1 : Sm (fun a k => regW a k ∨ a = 1113 ∨ a = 1114 ∨ (a = 1109 ∧ k = i) ∨ ((a = 1104 ∨ a = 1105) ∧ 20 * i ≤ k ∧ k < 20 * i + 20)) h hB := S1.trans (SB.mono (fun a k z => Or.inl z))
      have g1 := S1.gg g
      have hc1 := (S1.2.2 1085 12 (by unfold regW; omega)).trans hc
      have hR1 := S1.repM (fun a k q9 => by unfold regW at q9; omega) hR
      obtain ⟨M0, M1, M2, M3, M4, Q0, Q1, Q2, S0, N0, N1⟩ := hR1.use
      obtain ⟨v5, v6, v7, v8, vus, vfp, vlp, vwr⟩ := id hqB
      change RN 188 71 _ _ _ 0 0 _
      dsimp only [Option.toList, List.nil_append]
      refine r_aload_n hm rfl (k := ?_)
      refine r_getR (hm := hm) (hf := rfl) (hd := rfl) (hs := (by first | assumption | exact (g1.1 _).trans rfl)) (hv := (by first | exact putI_eq | exact (putI_ne (by omega)).trans (by first | exact putI_eq | exact (putI_ne (by omega)).trans (by first | exact putI_eq | exact (putI_ne (by omega)).trans (by first | first | assumption | exact g1.2 _ _ _ rfl | exact vus _ (by omega) (by omega) | exact eLo _ (by omega) | exact eLp _ (by omega)) | first | assumption | exact g1.2 _ _ _ rfl | exact vus _ (by omega) (by omega) | exact eLo _ (by omega) | exact eLp _ (by omega)) | first | assumption | exact g1.2 _ _ _ rfl | exact vus _ (by omega) (by omega) | exact eLo _ (by omega) | exact eLp _ (by omega)) | first | assumption | exact g1.2 _ _ _ rfl | exact vus _ (by omega) (by omega) | exact eLo _ (by omega) | exact eLp _ (by omega))) (k := ?_)
      refine r_iload_n hm rfl (k := ?_)
      refine r_aload_n hm rfl (k := ?_)
      refine r_getI (hm := hm) (hf := rfl) (hd := rfl) (hs := (by first | assumption | exact (g1.1 _).trans rfl)) (hv := (by first | exact putI_eq | exact (putI_ne (by omega)).trans (by first | exact putI_eq | exact (putI_ne (by omega)).trans (by first | exact putI_eq | exact (putI_ne (by omega)).trans (by first | first | assumption | exact g1.2 _ _ _ rfl | exact vus _ (by omega) (by omega) | exact eLo _ (by omega) | exact eLp _ (by omega)) | first | assumption | exact g1.2 _ _ _ rfl | exact vus _ (by omega) (by omega) | exact eLo _ (by omega) | exact eLp _ (by omega)) | first | assumption | exact g1.2 _ _ _ rfl | exact vus _ (by omega) (by omega) | exact eLo _ (by omega) | exact eLp _ (by omega)) | first | assumption | exact g1.2 _ _ _ rfl | exact vus _ (by omega) (by omega) | exact eLo _ (by omega) | exact eLp _ (by omega))) (k := ?_)
      refine r_iast (hm := hm) (hf := rfl) (h28 := (by omega)) (hs := (by first | assumption | exact (g1.1 _).trans rfl)) (hi := rfl) (hn := (by omega)) (k := ?_)
      refine r_aload_n hm rfl (k := ?_)
      refine r_getR (hm := hm) (hf := rfl) (hd := rfl) (hs := (by first | assumption | exact (g1.1 _).trans rfl)) (hv := (by first | exact putI_eq | exact (putI_ne (by omega)).trans (by first | exact putI_eq | exact (putI_ne (by omega)).trans (by first | exact putI_eq | exact (putI_ne (by omega)).trans (by first | first | assumption | exact g1.2 _ _ _ rfl | exact vus _ (by omega) (by omega) | exact eLo _ (by omega) | exact eLp _ (by omega)) | first | assumption | exact g1.2 _ _ _ rfl | exact vus _ (by omega) (by omega) | exact eLo _ (by omega) | exact eLp _ (by omega)) | first | assumption | exact g1.2 _ _ _ rfl | exact vus _ (by omega) (by omega) | exact eLo _ (by omega) | exact eLp _ (by omega)) | first | assumption | exact g1.2 _ _ _ rfl | exact vus _ (by omega) (by omega) | exact eLo _ (by omega) | exact eLp _ (by omega))) (k := ?_)
      refine r_iload_n hm rfl (k := ?_)
      refine r_aload_n hm rfl (k := ?_)
      refine r_getI (hm := hm) (hf := rfl) (hd := rfl) (hs := (by first | assumption | exact (g1.1 _).trans rfl)) (hv := (by first | exact putI_eq | exact (putI_ne (by omega)).trans (by first | exact putI_eq | exact (putI_ne (by omega)).trans (by first | exact putI_eq | exact (putI_ne (by omega)).trans (by first | first | assumption | exact g1.2 _ _ _ rfl | exact vus _ (by omega) (by omega) | exact eLo _ (by omega) | exact eLp _ (by omega)) | first | assumption | exact g1.2 _ _ _ rfl | exact vus _ (by omega) (by omega) | exact eLo _ (by omega) | exact eLp _ (by omega)) | first | assumption | exact g1.2 _ _ _ rfl | exact vus _ (by omega) (by omega) | exact eLo _ (by omega) | exact eLp _ (by omega)) | first | assumption | exact g1.2 _ _ _ rfl | exact vus _ (by omega) (by omega) | exact eLo _ (by omega) | exact eLp _ (by omega))) (k := ?_)
      refine r_iast (hm := hm) (hf := rfl) (h28 := (by omega)) (hs := (by first | assumption | exact (g1.1 _).trans rfl)) (hi := rfl) (hn := (by omega)) (k := ?_)
      refine r_aload_n hm rfl (k := ?_)
      refine r_getR (hm := hm) (hf := rfl) (hd := rfl) (hs := (by first | assumption | exact (g1.1 _).trans rfl)) (hv := (by first | exact putI_eq | exact (putI_ne (by omega)).trans (by first | exact putI_eq | exact (putI_ne (by omega)).trans (by first | exact putI_eq | exact (putI_ne (by omega)).trans (by first | first | assumption | exact g1.2 _ _ _ rfl | exact vus _ (by omega) (by omega) | exact eLo _ (by omega) | exact eLp _ (by omega)) | first | assumption | exact g1.2 _ _ _ rfl | exact vus _ (by omega) (by omega) | exact eLo _ (by omega) | exact eLp _ (by omega)) | first | assumption | exact g1.2 _ _ _ rfl | exact vus _ (by omega) (by omega) | exact eLo _ (by omega) | exact eLp _ (by omega)) | first | assumption | exact g1.2 _ _ _ rfl | exact vus _ (by omega) (by omega) | exact eLo _ (by omega) | exact eLp _ (by omega))) (k := ?_)
      refine r_aload_n hm rfl (k := ?_)
      refine r_getI (hm := hm) (hf := rfl) (hd := rfl) (hs := (by first | assumption | exact (g1.1 _).trans rfl)) (hv := (by first | exact putI_eq | exact (putI_ne (by omega)).trans (by first | exact putI_eq | exact (putI_ne (by omega)).trans (by first | exact putI_eq | exact (putI_ne (by omega)).trans (by first | first | assumption | exact g1.2 _ _ _ rfl | exact vus _ (by omega) (by omega) | exact eLo _ (by omega) | exact eLp _ (by omega)) | first | assumption | exact g1.2 _ _ _ rfl | exact vus _ (by omega) (by omega) | exact eLo _ (by omega) | exact eLp _ (by omega)) | first | assumption | exact g1.2 _ _ _ rfl | exact vus _ (by omega) (by omega) | exact eLo _ (by omega) | exact eLp _ (by omega)) | first | assumption | exact g1.2 _ _ _ rfl | exact vus _ (by omega) (by omega) | exact eLo _ (by omega) | exact eLp _ (by omega))) (k := ?_)
      refine r_dup2 hm rfl (k := ?_)
      refine r_iald (hm := hm) (hf := rfl) (hs := (by first | assumption | exact (g1.1 _).trans rfl)) (hi := rfl) (hn := (by omega)) (hv := (by first | exact putI_eq | exact (putI_ne (by omega)).trans (by first | exact putI_eq | exact (putI_ne (by omega)).trans (by first | exact putI_eq | exact (putI_ne (by omega)).trans (by first | first | assumption | exact g1.2 _ _ _ rfl | exact vus _ (by omega) (by omega) | exact eLo _ (by omega) | exact eLp _ (by omega)) | first | assumption | exact g1.2 _ _ _ rfl | exact vus _ (by omega) (by omega) | exact eLo _ (by omega) | exact eLp _ (by omega)) | first | assumption | exact g1.2 _ _ _ rfl | exact vus _ (by omega) (by omega) | exact eLo _ (by omega) | exact eLp _ (by omega)) | first | assumption | exact g1.2 _ _ _ rfl | exact vus _ (by omega) (by omega) | exact eLo _ (by omega) | exact eLp _ (by omega))) (k := ?_)
      refine r_aload_n hm rfl (k := ?_)
      refine r_getR (hm := hm) (hf := rfl) (hd := rfl) (hs := (by first | assumption | exact (g1.1 _).trans rfl)) (hv := (by first | exact putI_eq | exact (putI_ne (by omega)).trans (by first | exact putI_eq | exact (putI_ne (by omega)).trans (by first | exact putI_eq | exact (putI_ne (by omega)).trans (by first | first | assumption | exact g1.2 _ _ _ rfl | exact vus _ (by omega) (by omega) | exact eLo _ (by omega) | exact eLp _ (by omega)) | first | assumption | exact g1.2 _ _ _ rfl | exact vus _ (by omega) (by omega) | exact eLo _ (by omega) | exact eLp _ (by omega)) | first | assumption | exact g1.2 _ _ _ rfl | exact vus _ (by omega) (by omega) | exact eLo _ (by omega) | exact eLp _ (by omega)) | first | assumption | exact g1.2 _ _ _ rfl | exact vus _ (by omega) (by omega) | exact eLo _ (by omega) | exact eLp _ (by omega))) (k := ?_)
      refine r_iload_n hm rfl (k := ?_)
      refine r_iald (hm := hm) (hf := rfl) (hs := (by first | assumption | exact (g1.1 _).trans rfl)) (hi := rfl) (hn := (by omega)) (hv := (by first | exact putI_eq | exact (putI_ne (by omega)).trans (by first | exact putI_eq | exact (putI_ne (by omega)).trans (by first | exact putI_eq | exact (putI_ne (by omega)).trans (by first | first | assumption | exact g1.2 _ _ _ rfl | exact vus _ (by omega) (by omega) | exact eLo _ (by omega) | exact eLp _ (by omega)) | first | assumption | exact g1.2 _ _ _ rfl | exact vus _ (by omega) (by omega) | exact eLo _ (by omega) | exact eLp _ (by omega)) | first | assumption | exact g1.2 _ _ _ rfl | exact vus _ (by omega) (by omega) | exact eLo _ (by omega) | exact eLp _ (by omega)) | first | assumption | exact g1.2 _ _ _ rfl | exact vus _ (by omega) (by omega) | exact eLo _ (by omega) | exact eLp _ (by omega))) (k := ?_)
      refine r_iadd hm rfl (hr := (by omega)) (k := ?_)
      refine r_iast (hm := hm) (hf := rfl) (h28 := (by omega)) (hs := (by first | assumption | exact (g1.1 _).trans rfl)) (hi := rfl) (hn := (by omega)) (k := ?_)
      refine r_goto (t := 329) hm rfl (k := ?_)
      refine r_return hm rfl rfl (Nat.le_of_ble_eq_true rfl) (Nat.le_of_ble_eq_true rfl) ?_
      have eI : iS x H lt i q = (tk (se (sf (rm x H (hli (x.2.1 2 i) + 2) (if x.2.1 2 i = 1 ∧ x.2.2.2 12 = 1 ∧ q.2.1 q.1 ≠ 0 then tn x H q else q)) i) i) (hli (x.2.1 2 i)), fun _ => 0) := by
        unfold iS
        rw [if_pos (show x.2.1 1 i = 0 by omega)]
      have eN : lnc x lt i = hli (x.2.1 2 i) := by
        unfold lnc
        rw [if_pos (show x.2.1 1 i = 0 by omega)]
      rw [eI, eN]
      refine ⟨(Sm.put (Sm.put (Sm.put S1 (by unfold regW; omega)) (by unfold regW; omega)) (by unfold regW; omega)), ?_, ?_, fun k hk => by omega, rfl⟩
      · unfold PgM
        simp (disch := omega) only [putI_fne, putI_feq, upf_ne, upf_eq]
        exact hqB.sf.se.tk
      · simp (disch := omega) only [putI_fne, putI_feq, upf_ne, upf_eq]
        exact eln
    · refine r_aload_n hm rfl (k := ?_)
      refine r_bipush hm rfl (k := ?_)
      refine r_callv (j2 := 176) hm rfl rfl rfl rfl rfl rfl (by first | assumption | exact (g1.1 _).trans rfl) (Nat.le_of_ble_eq_true rfl) (Nat.le_of_ble_eq_true rfl) rfl ⟨Nat.le_of_ble_eq_true rfl, Nat.le_of_ble_eq_true rfl, Nat.le_of_ble_eq_true rfl, Nat.le_of_ble_eq_true rfl, Nat.le_of_ble_eq_true rfl⟩ rfl (m_rule g1 hc1 hc3 hR1 (i := 12) (by omega)) (fun v9 h9 p9 => ?_)
      obtain ⟨e1, e2⟩ := p9
      subst e2
      replace e1 := e1.symm
      subst e1
      change RN 188 25 _ _ _ 0 0 _
      dsimp only [Option.toList, List.cons_append, List.nil_append]
      refine r_iconst hm rfl (k := ?_)
      refine r_icmp_ne (t := 45) hm rfl rfl (fun c26 => ?_) (fun c26 => ?_)
      · have e39 : (if x.2.1 2 i = 1 ∧ x.2.2.2 12 = 1 ∧ q.2.1 q.1 ≠ 0 then tn x H q else q) = q := if_neg (by omega)
        have ok1 := hd_ok (x := x) (H := H) (p := x.2.1 2 i = 1 ∧ x.2.2.2 12 = 1 ∧ q.2.1 q.1 ≠ 0) hH (by omega) ok (fun e => e.2.2)
        rw [← e39] at hq
        refine r_aload_n hm rfl (k := ?_)
        refine r_getR (hm := hm) (hf := rfl) (hd := rfl) (hs := (by first | assumption | exact (g1.1 _).trans rfl)) (hv := (by first | exact putI_eq | exact (putI_ne (by omega)).trans (by first | exact putI_eq | exact (putI_ne (by omega)).trans (by first | exact putI_eq | exact (putI_ne (by omega)).trans (by first | first | assumption | exact g1.2 _ _ _ rfl | exact vus _ (by omega) (by omega) | exact eLo _ (by omega) | exact eLp _ (by omega)) | first | assumption | exact g1.2 _ _ _ rfl | exact vus _ (by omega) (by omega) | exact eLo _ (by omega) | exact eLp _ (by omega)) | first | assumption | exact g1.2 _ _ _ rfl | exact vus _ (by omega) (by omega) | exact eLo _ (by omega) | exact eLp _ (by omega)) | first | assumption | exact g1.2 _ _ _ rfl | exact vus _ (by omega) (by omega) | exact eLo _ (by omega) | exact eLp _ (by omega))) (k := ?_)
        refine r_iload_n hm rfl (k := ?_)
        refine r_aload_n hm rfl (k := ?_)
        refine r_iload_n hm rfl (k := ?_)
        refine r_callv (j2 := 175) hm rfl rfl rfl rfl rfl rfl (by first | assumption | exact (g1.1 _).trans rfl) (Nat.le_of_ble_eq_true rfl) (Nat.le_of_ble_eq_true rfl) rfl ⟨Nat.le_of_ble_eq_true rfl, Nat.le_of_ble_eq_true rfl, Nat.le_of_ble_eq_true rfl, Nat.le_of_ble_eq_true rfl, Nat.le_of_ble_eq_true rfl⟩ rfl (m_a g1 hc1 hc3 hR1 (i := i) hi) (fun v9 h9 p9 => ?_)
        obtain ⟨e1, e2⟩ := p9
        subst e2
        replace e1 := e1.symm
        subst e1
        change RN 188 55 _ _ _ 0 0 _
        dsimp only [Option.toList, List.cons_append, List.nil_append]
        refine r_calls (j2 := 190) hm rfl rfl rfl rfl rfl rfl (Nat.le_of_ble_eq_true rfl) (Nat.le_of_ble_eq_true rfl) rfl ⟨Nat.le_of_ble_eq_true rfl, Nat.le_of_ble_eq_true rfl, Nat.le_of_ble_eq_true rfl, Nat.le_of_ble_eq_true rfl, Nat.le_of_ble_eq_true rfl⟩ rfl (m_highOf) (fun v9 h9 p9 => ?_)
        obtain ⟨e1, e2⟩ := p9
        subst e2
        replace e1 := e1.symm
        subst e1
        change RN 188 58 _ _ _ 0 0 _
        dsimp only [Option.toList, List.cons_append, List.nil_append]
        refine r_iast (hm := hm) (hf := rfl) (h28 := (by omega)) (hs := (by first | assumption | exact (g1.1 _).trans rfl)) (hi := rfl) (hn := (by omega)) (k := ?_)
        refine RN.abs (fun h1 => Sm (fun a k => regW a k ∨ a = 1113 ∨ a = 1114 ∨ (a = 1109 ∧ k = i) ∨ ((a = 1104 ∨ a = 1105) ∧ 20 * i ≤ k ∧ k < 20 * i + 20)) h h1 ∧ PgM h1 H (if x.2.1 2 i = 1 ∧ x.2.2.2 12 = 1 ∧ q.2.1 q.1 ≠ 0 then tn x H q else q) ∧ h1.2.1 1109 i = hli (x.2.1 2 i)) ⟨Sm.put S1 (by unfold regW; omega), hq.same (Sm.put (S := fun a k => a = 1109) Sm.refl rfl) (fun a k z => by unfold regW; omega), putI_eq⟩ (fun h1 H9 => ?_)
        obtain ⟨S1, hqX, eln⟩ := H9
        have g1 := S1.gg g
        have hc1 := (S1.2.2 1085 12 (by unfold regW; omega)).trans hc
        have hR1 := S1.repM (fun a k q9 => by unfold regW at q9; omega) hR
        obtain ⟨M0, M1, M2, M3, M4, Q0, Q1, Q2, S0, N0, N1⟩ := hR1.use
        have qm := m_room g1 hc1 hc3 hR1 hH hqX ok1 (by omega) (by omega) (by omega) (n := hli (x.2.1 2 i) + 2) (by omega)
        obtain ⟨c1, c2, c3⟩ := rm_ok (n := hli (x.2.1 2 i) + 2) hH (by omega) ok1
        have c4 := c1.rng (by omega)
        refine r_aload_n hm rfl (k := ?_)
        refine r_aload_n hm rfl (k := ?_)
        refine r_getR (hm := hm) (hf := rfl) (hd := rfl) (hs := (by first | assumption | exact (g1.1 _).trans rfl)) (hv := (by first | exact putI_eq | exact (putI_ne (by omega)).trans (by first | exact putI_eq | exact (putI_ne (by omega)).trans (by first | exact putI_eq | exact (putI_ne (by omega)).trans (by first | first | assumption | exact g1.2 _ _ _ rfl | exact vus _ (by omega) (by omega) | exact eLo _ (by omega) | exact eLp _ (by omega)) | first | assumption | exact g1.2 _ _ _ rfl | exact vus _ (by omega) (by omega) | exact eLo _ (by omega) | exact eLp _ (by omega)) | first | assumption | exact g1.2 _ _ _ rfl | exact vus _ (by omega) (by omega) | exact eLo _ (by omega) | exact eLp _ (by omega)) | first | assumption | exact g1.2 _ _ _ rfl | exact vus _ (by omega) (by omega) | exact eLo _ (by omega) | exact eLp _ (by omega))) (k := ?_)
        refine r_iload_n hm rfl (k := ?_)
        refine r_iald (hm := hm) (hf := rfl) (hs := (by first | assumption | exact (g1.1 _).trans rfl)) (hi := rfl) (hn := (by omega)) (hv := (by first | exact putI_eq | exact (putI_ne (by omega)).trans (by first | exact putI_eq | exact (putI_ne (by omega)).trans (by first | exact putI_eq | exact (putI_ne (by omega)).trans (by first | first | assumption | exact g1.2 _ _ _ rfl | exact vus _ (by omega) (by omega) | exact eLo _ (by omega) | exact eLp _ (by omega)) | first | assumption | exact g1.2 _ _ _ rfl | exact vus _ (by omega) (by omega) | exact eLo _ (by omega) | exact eLp _ (by omega)) | first | assumption | exact g1.2 _ _ _ rfl | exact vus _ (by omega) (by omega) | exact eLo _ (by omega) | exact eLp _ (by omega)) | first | assumption | exact g1.2 _ _ _ rfl | exact vus _ (by omega) (by omega) | exact eLo _ (by omega) | exact eLp _ (by omega))) (k := ?_)
        refine r_iconst hm rfl (k := ?_)
        refine r_iadd hm rfl (hr := (by omega)) (k := ?_)
        refine r_callv (j2 := 191) hm rfl rfl rfl rfl rfl rfl (by first | assumption | exact (g1.1 _).trans rfl) (Nat.le_of_ble_eq_true rfl) (Nat.le_of_ble_eq_true rfl) rfl ⟨Nat.le_of_ble_eq_true rfl, Nat.le_of_ble_eq_true rfl, Nat.le_of_ble_eq_true rfl, Nat.le_of_ble_eq_true rfl, Nat.le_of_ble_eq_true rfl⟩ rfl (qm) (fun v9 hB p9 => ?_)
        obtain ⟨SB, hqB, e1⟩ := p9
        subst e1
        replace eln : hB.2.1 1109 i = hli (x.2.1 2 i) := (SB.2.2 _ _ (by unfold regW; omega)).trans eln
        replace S1 : Sm (fun a k => regW a k ∨ a = 1113 ∨ a = 1114 ∨ (a = 1109 ∧ k = i) ∨ ((a = 1104 ∨ a = 1105) ∧ 20 * i ≤ k ∧ k < 20 * i + 20)) h hB := S1.trans (SB.mono (fun a k z => Or.inl z))
        have g1 := S1.gg g
        have hc1 := (S1.2.2 1085 12 (by unfold regW; omega)).trans hc
        have hR1 := S1.repM (fun a k q9 => by unfold regW at q9; omega) hR
        obtain ⟨M0, M1, M2, M3, M4, Q0, Q1, Q2, S0, N0, N1⟩ := hR1.use
        obtain ⟨v5, v6, v7, v8, vus, vfp, vlp, vwr⟩ := id hqB
        change RN 188 71 _ _ _ 0 0 _
        dsimp only [Option.toList, List.nil_append]
        refine r_aload_n hm rfl (k := ?_)
        refine r_getR (hm := hm) (hf := rfl) (hd := rfl) (hs := (by first | assumption | exact (g1.1 _).trans rfl)) (hv := (by first | exact putI_eq | exact (putI_ne (by omega)).trans (by first | exact putI_eq | exact (putI_ne (by omega)).trans (by first | exact putI_eq | exact (putI_ne (by omega)).trans (by first | first | assumption | exact g1.2 _ _ _ rfl | exact vus _ (by omega) (by omega) | exact eLo _ (by omega) | exact eLp _ (by omega)) | first | assumption | exact g1.2 _ _ _ rfl | exact vus _ (by omega) (by omega) | exact eLo _ (by omega) | exact eLp _ (by omega)) | first | assumption | exact g1.2 _ _ _ rfl | exact vus _ (by omega) (by omega) | exact eLo _ (by omega) | exact eLp _ (by omega)) | first | assumption | exact g1.2 _ _ _ rfl | exact vus _ (by omega) (by omega) | exact eLo _ (by omega) | exact eLp _ (by omega))) (k := ?_)
        refine r_iload_n hm rfl (k := ?_)
        refine r_aload_n hm rfl (k := ?_)
        refine r_getI (hm := hm) (hf := rfl) (hd := rfl) (hs := (by first | assumption | exact (g1.1 _).trans rfl)) (hv := (by first | exact putI_eq | exact (putI_ne (by omega)).trans (by first | exact putI_eq | exact (putI_ne (by omega)).trans (by first | exact putI_eq | exact (putI_ne (by omega)).trans (by first | first | assumption | exact g1.2 _ _ _ rfl | exact vus _ (by omega) (by omega) | exact eLo _ (by omega) | exact eLp _ (by omega)) | first | assumption | exact g1.2 _ _ _ rfl | exact vus _ (by omega) (by omega) | exact eLo _ (by omega) | exact eLp _ (by omega)) | first | assumption | exact g1.2 _ _ _ rfl | exact vus _ (by omega) (by omega) | exact eLo _ (by omega) | exact eLp _ (by omega)) | first | assumption | exact g1.2 _ _ _ rfl | exact vus _ (by omega) (by omega) | exact eLo _ (by omega) | exact eLp _ (by omega))) (k := ?_)
        refine r_iast (hm := hm) (hf := rfl) (h28 := (by omega)) (hs := (by first | assumption | exact (g1.1 _).trans rfl)) (hi := rfl) (hn := (by omega)) (k := ?_)
        refine r_aload_n hm rfl (k := ?_)
        refine r_getR (hm := hm) (hf := rfl) (hd := rfl) (hs := (by first | assumption | exact (g1.1 _).trans rfl)) (hv := (by first | exact putI_eq | exact (putI_ne (by omega)).trans (by first | exact putI_eq | exact (putI_ne (by omega)).trans (by first | exact putI_eq | exact (putI_ne (by omega)).trans (by first | first | assumption | exact g1.2 _ _ _ rfl | exact vus _ (by omega) (by omega) | exact eLo _ (by omega) | exact eLp _ (by omega)) | first | assumption | exact g1.2 _ _ _ rfl | exact vus _ (by omega) (by omega) | exact eLo _ (by omega) | exact eLp _ (by omega)) | first | assumption | exact g1.2 _ _ _ rfl | exact vus _ (by omega) (by omega) | exact eLo _ (by omega) | exact eLp _ (by omega)) | first | assumption | exact g1.2 _ _ _ rfl | exact vus _ (by omega) (by omega) | exact eLo _ (by omega) | exact eLp _ (by omega))) (k := ?_)
        refine r_iload_n hm rfl (k := ?_)
        refine r_aload_n hm rfl (k := ?_)
        refine r_getI (hm := hm) (hf := rfl) (hd := rfl) (hs := (by first | assumption | exact (g1.1 _).trans rfl)) (hv := (by first | exact putI_eq | exact (putI_ne (by omega)).trans (by first | exact putI_eq | exact (putI_ne (by omega)).trans (by first | exact putI_eq | exact (putI_ne (by omega)).trans (by first | first | assumption | exact g1.2 _ _ _ rfl | exact vus _ (by omega) (by omega) | exact eLo _ (by omega) | exact eLp _ (by omega)) | first | assumption | exact g1.2 _ _ _ rfl | exact vus _ (by omega) (by omega) | exact eLo _ (by omega) | exact eLp _ (by omega)) | first | assumption | exact g1.2 _ _ _ rfl | exact vus _ (by omega) (by omega) | exact eLo _ (by omega) | exact eLp _ (by omega)) | first | assumption | exact g1.2 _ _ _ rfl | exact vus _ (by omega) (by omega) | exact eLo _ (by omega) | exact eLp _ (by omega))) (k := ?_)
        refine r_iast (hm := hm) (hf := rfl) (h28 := (by omega)) (hs := (by first | assumption | exact (g1.1 _).trans rfl)) (hi := rfl) (hn := (by omega)) (k := ?_)
        refine r_aload_n hm rfl (k := ?_)
        refine r_getR (hm := hm) (hf := rfl) (hd := rfl) (hs := (by first | assumption | exact (g1.1 _).trans rfl)) (hv := (by first | exact putI_eq | exact (putI_ne (by omega)).trans (by first | exact putI_eq | exact (putI_ne (by omega)).trans (by first | exact putI_eq | exact (putI_ne (by omega)).trans (by first | first | assumption | exact g1.2 _ _ _ rfl | exact vus _ (by omega) (by omega) | exact eLo _ (by omega) | exact eLp _ (by omega)) | first | assumption | exact g1.2 _ _ _ rfl | exact vus _ (by omega) (by omega) | exact eLo _ (by omega) | exact eLp _ (by omega)) | first | assumption | exact g1.2 _ _ _ rfl | exact vus _ (by omega) (by omega) | exact eLo _ (by omega) | exact eLp _ (by omega)) | first | assumption | exact g1.2 _ _ _ rfl | exact vus _ (by omega) (by omega) | exact eLo _ (by omega) | exact eLp _ (by omega))) (k := ?_)
        refine r_aload_n hm rfl (k := ?_)
        refine r_getI (hm := hm) (hf := rfl) (hd := rfl) (hs := (by first | assumption | exact (g1.1 _).trans rfl)) (hv := (by first | exact putI_eq | exact (putI_ne (by omega)).trans (by first | exact putI_eq | exact (putI_ne (by omega)).trans (by first | exact putI_eq | exact (putI_ne (by omega)).trans (by first | first | assumption | exact g1.2 _ _ _ rfl | exact vus _ (by omega) (by omega) | exact eLo _ (by omega) | exact eLp _ (by omega)) | first | assumption | exact g1.2 _ _ _ rfl | exact vus _ (by omega) (by omega) | exact eLo _ (by omega) | exact eLp _ (by omega)) | first | assumption | exact g1.2 _ _ _ rfl | exact vus _ (by omega) (by omega) | exact eLo _ (by omega) | exact eLp _ (by omega)) | first | assumption | exact g1.2 _ _ _ rfl | exact vus _ (by omega) (by omega) | exact eLo _ (by omega) | exact eLp _ (by omega))) (k := ?_)
        refine r_dup2 hm rfl (k := ?_)
        refine r_iald (hm := hm) (hf := rfl) (hs := (by first | assumption | exact (g1.1 _).trans rfl)) (hi := rfl) (hn := (by omega)) (hv := (by first | exact putI_eq | exact (putI_ne (by omega)).trans (by first | exact putI_eq | exact (putI_ne (by omega)).trans (by first | exact putI_eq | exact (putI_ne (by omega)).trans (by first | first | assumption | exact g1.2 _ _ _ rfl | exact vus _ (by omega) (by omega) | exact eLo _ (by omega) | exact eLp _ (by omega)) | first | assumption | exact g1.2 _ _ _ rfl | exact vus _ (by omega) (by omega) | exact eLo _ (by omega) | exact eLp _ (by omega)) | first | assumption | exact g1.2 _ _ _ rfl | exact vus _ (by omega) (by omega) | exact eLo _ (by omega) | exact eLp _ (by omega)) | first | assumption | exact g1.2 _ _ _ rfl | exact vus _ (by omega) (by omega) | exact eLo _ (by omega) | exact eLp _ (by omega))) (k := ?_)
        refine r_aload_n hm rfl (k := ?_)
        refine r_getR (hm := hm) (hf := rfl) (hd := rfl) (hs := (by first | assumption | exact (g1.1 _).trans rfl)) (hv := (by first | exact putI_eq | exact (putI_ne (by omega)).trans (by first | exact putI_eq | exact (putI_ne (by omega)).trans (by first | exact putI_eq | exact (putI_ne (by omega)).trans (by first | first | assumption | exact g1.2 _ _ _ rfl | exact vus _ (by omega) (by omega) | exact eLo _ (by omega) | exact eLp _ (by omega)) | first | assumption | exact g1.2 _ _ _ rfl | exact vus _ (by omega) (by omega) | exact eLo _ (by omega) | exact eLp _ (by omega)) | first | assumption | exact g1.2 _ _ _ rfl | exact vus _ (by omega) (by omega) | exact eLo _ (by omega) | exact eLp _ (by omega)) | first | assumption | exact g1.2 _ _ _ rfl | exact vus _ (by omega) (by omega) | exact eLo _ (by omega) | exact eLp _ (by omega))) (k := ?_)
        refine r_iload_n hm rfl (k := ?_)
        refine r_iald (hm := hm) (hf := rfl) (hs := (by first | assumption | exact (g1.1 _).trans rfl)) (hi := rfl) (hn := (by omega)) (hv := (by first | exact putI_eq | exact (putI_ne (by omega)).trans (by first | exact putI_eq | exact (putI_ne (by omega)).trans (by first | exact putI_eq | exact (putI_ne (by omega)).trans (by first | first | assumption | exact g1.2 _ _ _ rfl | exact vus _ (by omega) (by omega) | exact eLo _ (by omega) | exact eLp _ (by omega)) | first | assumption | exact g1.2 _ _ _ rfl | exact vus _ (by omega) (by omega) | exact eLo _ (by omega) | exact eLp _ (by omega)) | first | assumption | exact g1.2 _ _ _ rfl | exact vus _ (by omega) (by omega) | exact eLo _ (by omega) | exact eLp _ (by omega)) | first | assumption | exact g1.2 _ _ _ rfl | exact vus _ (by omega) (by omega) | exact eLo _ (by omega) | exact eLp _ (by omega))) (k := ?_)
        refine r_iadd hm rfl (hr := (by omega)) (k := ?_)
        refine r_iast (hm := hm) (hf := rfl) (h28 := (by omega)) (hs := (by first | assumption | exact (g1.1 _).trans rfl)) (hi := rfl) (hn := (by omega)) (k := ?_)
        refine r_goto (t := 329) hm rfl (k := ?_)
        refine r_return hm rfl rfl (Nat.le_of_ble_eq_true rfl) (Nat.le_of_ble_eq_true rfl) ?_
        have eI : iS x H lt i q = (tk (se (sf (rm x H (hli (x.2.1 2 i) + 2) (if x.2.1 2 i = 1 ∧ x.2.2.2 12 = 1 ∧ q.2.1 q.1 ≠ 0 then tn x H q else q)) i) i) (hli (x.2.1 2 i)), fun _ => 0) := by
          unfold iS
          rw [if_pos (show x.2.1 1 i = 0 by omega)]
        have eN : lnc x lt i = hli (x.2.1 2 i) := by
          unfold lnc
          rw [if_pos (show x.2.1 1 i = 0 by omega)]
        rw [eI, eN]
        refine ⟨(Sm.put (Sm.put (Sm.put S1 (by unfold regW; omega)) (by unfold regW; omega)) (by unfold regW; omega)), ?_, ?_, fun k hk => by omega, rfl⟩
        · unfold PgM
          simp (disch := omega) only [putI_fne, putI_feq, upf_ne, upf_eq]
          exact hqB.sf.se.tk
        · simp (disch := omega) only [putI_fne, putI_feq, upf_ne, upf_eq]
          exact eln
      · refine r_aload_n hm rfl (k := ?_)
        refine r_getR (hm := hm) (hf := rfl) (hd := rfl) (hs := (by first | assumption | exact (g1.1 _).trans rfl)) (hv := (by first | exact putI_eq | exact (putI_ne (by omega)).trans (by first | exact putI_eq | exact (putI_ne (by omega)).trans (by first | exact putI_eq | exact (putI_ne (by omega)).trans (by first | first | assumption | exact g1.2 _ _ _ rfl | exact vus _ (by omega) (by omega) | exact eLo _ (by omega) | exact eLp _ (by omega)) | first | assumption | exact g1.2 _ _ _ rfl | exact vus _ (by omega) (by omega) | exact eLo _ (by omega) | exact eLp _ (by omega)) | first | assumption | exact g1.2 _ _ _ rfl | exact vus _ (by omega) (by omega) | exact eLo _ (by omega) | exact eLp _ (by omega)) | first | assumption | exact g1.2 _ _ _ rfl | exact vus _ (by omega) (by omega) | exact eLo _ (by omega) | exact eLp _ (by omega))) (k := ?_)
        refine r_aload_n hm rfl (k := ?_)
        refine r_getI (hm := hm) (hf := rfl) (hd := rfl) (hs := (by first | assumption | exact (g1.1 _).trans rfl)) (hv := (by first | exact putI_eq | exact (putI_ne (by omega)).trans (by first | exact putI_eq | exact (putI_ne (by omega)).trans (by first | exact putI_eq | exact (putI_ne (by omega)).trans (by first | first | assumption | exact g1.2 _ _ _ rfl | exact vus _ (by omega) (by omega) | exact eLo _ (by omega) | exact eLp _ (by omega)) | first | assumption | exact g1.2 _ _ _ rfl | exact vus _ (by omega) (by omega) | exact eLo _ (by omega) | exact eLp _ (by omega)) | first | assumption | exact g1.2 _ _ _ rfl | exact vus _ (by omega) (by omega) | exact eLo _ (by omega) | exact eLp _ (by omega)) | first | assumption | exact g1.2 _ _ _ rfl | exact vus _ (by omega) (by omega) | exact eLo _ (by omega) | exact eLp _ (by omega))) (k := ?_)
        refine r_iald (hm := hm) (hf := rfl) (hs := (by first | assumption | exact (g1.1 _).trans rfl)) (hi := rfl) (hn := (by omega)) (hv := (by first | exact putI_eq | exact (putI_ne (by omega)).trans (by first | exact putI_eq | exact (putI_ne (by omega)).trans (by first | exact putI_eq | exact (putI_ne (by omega)).trans (by first | first | assumption | exact g1.2 _ _ _ rfl | exact vus _ (by omega) (by omega) | exact eLo _ (by omega) | exact eLp _ (by omega)) | first | assumption | exact g1.2 _ _ _ rfl | exact vus _ (by omega) (by omega) | exact eLo _ (by omega) | exact eLp _ (by omega)) | first | assumption | exact g1.2 _ _ _ rfl | exact vus _ (by omega) (by omega) | exact eLo _ (by omega) | exact eLp _ (by omega)) | first | assumption | exact g1.2 _ _ _ rfl | exact vus _ (by omega) (by omega) | exact eLo _ (by omega) | exact eLp _ (by omega))) (k := ?_)
        refine r_if_eq (t := 45) hm rfl rfl (fun c38 => ?_) (fun c38 => ?_)
        · have e39 : (if x.2.1 2 i = 1 ∧ x.2.2.2 12 = 1 ∧ q.2.1 q.1 ≠ 0 then tn x H q else q) = q := if_neg (by omega)
          have ok1 := hd_ok (x := x) (H := H) (p := x.2.1 2 i = 1 ∧ x.2.2.2 12 = 1 ∧ q.2.1 q.1 ≠ 0) hH (by omega) ok (fun e => e.2.2)
          rw [← e39] at hq
          refine r_aload_n hm rfl (k := ?_)
          refine r_getR (hm := hm) (hf := rfl) (hd := rfl) (hs := (by first | assumption | exact (g1.1 _).trans rfl)) (hv := (by first | exact putI_eq | exact (putI_ne (by omega)).trans (by first | exact putI_eq | exact (putI_ne (by omega)).trans (by first | exact putI_eq | exact (putI_ne (by omega)).trans (by first | first | assumption | exact g1.2 _ _ _ rfl | exact vus _ (by omega) (by omega) | exact eLo _ (by omega) | exact eLp _ (by omega)) | first | assumption | exact g1.2 _ _ _ rfl | exact vus _ (by omega) (by omega) | exact eLo _ (by omega) | exact eLp _ (by omega)) | first | assumption | exact g1.2 _ _ _ rfl | exact vus _ (by omega) (by omega) | exact eLo _ (by omega) | exact eLp _ (by omega)) | first | assumption | exact g1.2 _ _ _ rfl | exact vus _ (by omega) (by omega) | exact eLo _ (by omega) | exact eLp _ (by omega))) (k := ?_)
          refine r_iload_n hm rfl (k := ?_)
          refine r_aload_n hm rfl (k := ?_)
          refine r_iload_n hm rfl (k := ?_)
          refine r_callv (j2 := 175) hm rfl rfl rfl rfl rfl rfl (by first | assumption | exact (g1.1 _).trans rfl) (Nat.le_of_ble_eq_true rfl) (Nat.le_of_ble_eq_true rfl) rfl ⟨Nat.le_of_ble_eq_true rfl, Nat.le_of_ble_eq_true rfl, Nat.le_of_ble_eq_true rfl, Nat.le_of_ble_eq_true rfl, Nat.le_of_ble_eq_true rfl⟩ rfl (m_a g1 hc1 hc3 hR1 (i := i) hi) (fun v9 h9 p9 => ?_)
          obtain ⟨e1, e2⟩ := p9
          subst e2
          replace e1 := e1.symm
          subst e1
          change RN 188 55 _ _ _ 0 0 _
          dsimp only [Option.toList, List.cons_append, List.nil_append]
          refine r_calls (j2 := 190) hm rfl rfl rfl rfl rfl rfl (Nat.le_of_ble_eq_true rfl) (Nat.le_of_ble_eq_true rfl) rfl ⟨Nat.le_of_ble_eq_true rfl, Nat.le_of_ble_eq_true rfl, Nat.le_of_ble_eq_true rfl, Nat.le_of_ble_eq_true rfl, Nat.le_of_ble_eq_true rfl⟩ rfl (m_highOf) (fun v9 h9 p9 => ?_)
          obtain ⟨e1, e2⟩ := p9
          subst e2
          replace e1 := e1.symm
          subst e1
          change RN 188 58 _ _ _ 0 0 _
          dsimp only [Option.toList, List.cons_append, List.nil_append]
          refine r_iast (hm := hm) (hf := rfl) (h28 := (by omega)) (hs := (by first | assumption | exact (g1.1 _).trans rfl)) (hi := rfl) (hn := (by omega)) (k := ?_)
          refine RN.abs (fun h1 => Sm (fun a k => regW a k ∨ a = 1113 ∨ a = 1114 ∨ (a = 1109 ∧ k = i) ∨ ((a = 1104 ∨ a = 1105) ∧ 20 * i ≤ k ∧ k < 20 * i + 20)) h h1 ∧ PgM h1 H (if x.2.1 2 i = 1 ∧ x.2.2.2 12 = 1 ∧ q.2.1 q.1 ≠ 0 then tn x H q else q) ∧ h1.2.1 1109 i = hli (x.2.1 2 i)) ⟨Sm.put S1 (by unfold regW; omega), hq.same (Sm.put (S := fun a k => a = 1109) Sm.refl rfl) (fun a k z => by unfold regW; omega), putI_eq⟩ (fun h1 H9 => ?_)
          obtain ⟨S1, hqX, eln⟩ := H9
          have g1 := S1.gg g
          have hc1 := (S1.2.2 1085 12 (by unfold regW; omega)).trans hc
          have hR1 := S1.repM (fun a k q9 => by unfold regW at q9; omega) hR
          obtain ⟨M0, M1, M2, M3, M4, Q0, Q1, Q2, S0, N0, N1⟩ := hR1.use
          have qm := m_room g1 hc1 hc3 hR1 hH hqX ok1 (by omega) (by omega) (by omega) (n := hli (x.2.1 2 i) + 2) (by omega)
          obtain ⟨c1, c2, c3⟩ := rm_ok (n := hli (x.2.1 2 i) + 2) hH (by omega) ok1
          have c4 := c1.rng (by omega)
          refine r_aload_n hm rfl (k := ?_)
          refine r_aload_n hm rfl (k := ?_)
          refine r_getR (hm := hm) (hf := rfl) (hd := rfl) (hs := (by first | assumption | exact (g1.1 _).trans rfl)) (hv := (by first | exact putI_eq | exact (putI_ne (by omega)).trans (by first | exact putI_eq | exact (putI_ne (by omega)).trans (by first | exact putI_eq | exact (putI_ne (by omega)).trans (by first | first | assumption | exact g1.2 _ _ _ rfl | exact vus _ (by omega) (by omega) | exact eLo _ (by omega) | exact eLp _ (by omega)) | first | assumption | exact g1.2 _ _ _ rfl | exact vus _ (by omega) (by omega) | exact eLo _ (by omega) | exact eLp _ (by omega)) | first | assumption | exact g1.2 _ _ _ rfl | exact vus _ (by omega) (by omega) | exact eLo _ (by omega) | exact eLp _ (by omega)) | first | assumption | exact g1.2 _ _ _ rfl | exact vus _ (by omega) (by omega) | exact eLo _ (by omega) | exact eLp _ (by omega))) (k := ?_)
          refine r_iload_n hm rfl (k := ?_)
          refine r_iald (hm := hm) (hf := rfl) (hs := (by first | assumption | exact (g1.1 _).trans rfl)) (hi := rfl) (hn := (by omega)) (hv := (by first | exact putI_eq | exact (putI_ne (by omega)).trans (by first | exact putI_eq | exact (putI_ne (by omega)).trans (by first | exact putI_eq | exact (putI_ne (by omega)).trans (by first | first | assumption | exact g1.2 _ _ _ rfl | exact vus _ (by omega) (by omega) | exact eLo _ (by omega) | exact eLp _ (by omega)) | first | assumption | exact g1.2 _ _ _ rfl | exact vus _ (by omega) (by omega) | exact eLo _ (by omega) | exact eLp _ (by omega)) | first | assumption | exact g1.2 _ _ _ rfl | exact vus _ (by omega) (by omega) | exact eLo _ (by omega) | exact eLp _ (by omega)) | first | assumption | exact g1.2 _ _ _ rfl | exact vus _ (by omega) (by omega) | exact eLo _ (by omega) | exact eLp _ (by omega))) (k := ?_)
          refine r_iconst hm rfl (k := ?_)
          refine r_iadd hm rfl (hr := (by omega)) (k := ?_)
          refine r_callv (j2 := 191) hm rfl rfl rfl rfl rfl rfl (by first | assumption | exact (g1.1 _).trans rfl) (Nat.le_of_ble_eq_true rfl) (Nat.le_of_ble_eq_true rfl) rfl ⟨Nat.le_of_ble_eq_true rfl, Nat.le_of_ble_eq_true rfl, Nat.le_of_ble_eq_true rfl, Nat.le_of_ble_eq_true rfl, Nat.le_of_ble_eq_true rfl⟩ rfl (qm) (fun v9 hB p9 => ?_)
          obtain ⟨SB, hqB, e1⟩ := p9
          subst e1
          replace eln : hB.2.1 1109 i = hli (x.2.1 2 i) := (SB.2.2 _ _ (by unfold regW; omega)).trans eln
          replace S1 : Sm (fun a k => regW a k ∨ a = 1113 ∨ a = 1114 ∨ (a = 1109 ∧ k = i) ∨ ((a = 1104 ∨ a = 1105) ∧ 20 * i ≤ k ∧ k < 20 * i + 20)) h hB := S1.trans (SB.mono (fun a k z => Or.inl z))
          have g1 := S1.gg g
          have hc1 := (S1.2.2 1085 12 (by unfold regW; omega)).trans hc
          have hR1 := S1.repM (fun a k q9 => by unfold regW at q9; omega) hR
          obtain ⟨M0, M1, M2, M3, M4, Q0, Q1, Q2, S0, N0, N1⟩ := hR1.use
          obtain ⟨v5, v6, v7, v8, vus, vfp, vlp, vwr⟩ := id hqB
          change RN 188 71 _ _ _ 0 0 _
          dsimp only [Option.toList, List.nil_append]
          refine r_aload_n hm rfl (k := ?_)
          refine r_getR (hm := hm) (hf := rfl) (hd := rfl) (hs := (by first | assumption | exact (g1.1 _).trans rfl)) (hv := (by first | exact putI_eq | exact (putI_ne (by omega)).trans (by first | exact putI_eq | exact (putI_ne (by omega)).trans (by first | exact putI_eq | exact (putI_ne (by omega)).trans (by first | first | assumption | exact g1.2 _ _ _ rfl | exact vus _ (by omega) (by omega) | exact eLo _ (by omega) | exact eLp _ (by omega)) | first | assumption | exact g1.2 _ _ _ rfl | exact vus _ (by omega) (by omega) | exact eLo _ (by omega) | exact eLp _ (by omega)) | first | assumption | exact g1.2 _ _ _ rfl | exact vus _ (by omega) (by omega) | exact eLo _ (by omega) | exact eLp _ (by omega)) | first | assumption | exact g1.2 _ _ _ rfl | exact vus _ (by omega) (by omega) | exact eLo _ (by omega) | exact eLp _ (by omega))) (k := ?_)
          refine r_iload_n hm rfl (k := ?_)
          refine r_aload_n hm rfl (k := ?_)
          refine r_getI (hm := hm) (hf := rfl) (hd := rfl) (hs := (by first | assumption | exact (g1.1 _).trans rfl)) (hv := (by first | exact putI_eq | exact (putI_ne (by omega)).trans (by first | exact putI_eq | exact (putI_ne (by omega)).trans (by first | exact putI_eq | exact (putI_ne (by omega)).trans (by first | first | assumption | exact g1.2 _ _ _ rfl | exact vus _ (by omega) (by omega) | exact eLo _ (by omega) | exact eLp _ (by omega)) | first | assumption | exact g1.2 _ _ _ rfl | exact vus _ (by omega) (by omega) | exact eLo _ (by omega) | exact eLp _ (by omega)) | first | assumption | exact g1.2 _ _ _ rfl | exact vus _ (by omega) (by omega) | exact eLo _ (by omega) | exact eLp _ (by omega)) | first | assumption | exact g1.2 _ _ _ rfl | exact vus _ (by omega) (by omega) | exact eLo _ (by omega) | exact eLp _ (by omega))) (k := ?_)
          refine r_iast (hm := hm) (hf := rfl) (h28 := (by omega)) (hs := (by first | assumption | exact (g1.1 _).trans rfl)) (hi := rfl) (hn := (by omega)) (k := ?_)
          refine r_aload_n hm rfl (k := ?_)
          refine r_getR (hm := hm) (hf := rfl) (hd := rfl) (hs := (by first | assumption | exact (g1.1 _).trans rfl)) (hv := (by first | exact putI_eq | exact (putI_ne (by omega)).trans (by first | exact putI_eq | exact (putI_ne (by omega)).trans (by first | exact putI_eq | exact (putI_ne (by omega)).trans (by first | first | assumption | exact g1.2 _ _ _ rfl | exact vus _ (by omega) (by omega) | exact eLo _ (by omega) | exact eLp _ (by omega)) | first | assumption | exact g1.2 _ _ _ rfl | exact vus _ (by omega) (by omega) | exact eLo _ (by omega) | exact eLp _ (by omega)) | first | assumption | exact g1.2 _ _ _ rfl | exact vus _ (by omega) (by omega) | exact eLo _ (by omega) | exact eLp _ (by omega)) | first | assumption | exact g1.2 _ _ _ rfl | exact vus _ (by omega) (by omega) | exact eLo _ (by omega) | exact eLp _ (by omega))) (k := ?_)
          refine r_iload_n hm rfl (k := ?_)
          refine r_aload_n hm rfl (k := ?_)
          refine r_getI (hm := hm) (hf := rfl) (hd := rfl) (hs := (by first | assumption | exact (g1.1 _).trans rfl)) (hv := (by first | exact putI_eq | exact (putI_ne (by omega)).trans (by first | exact putI_eq | exact (putI_ne (by omega)).trans (by first | exact putI_eq | exact (putI_ne (by omega)).trans (by first | first | assumption | exact g1.2 _ _ _ rfl | exact vus _ (by omega) (by omega) | exact eLo _ (by omega) | exact eLp _ (by omega)) | first | assumption | exact g1.2 _ _ _ rfl | exact vus _ (by omega) (by omega) | exact eLo _ (by omega) | exact eLp _ (by omega)) | first | assumption | exact g1.2 _ _ _ rfl | exact vus _ (by omega) (by omega) | exact eLo _ (by omega) | exact eLp _ (by omega)) | first | assumption | exact g1.2 _ _ _ rfl | exact vus _ (by omega) (by omega) | exact eLo _ (by omega) | exact eLp _ (by omega))) (k := ?_)
          refine r_iast (hm := hm) (hf := rfl) (h28 := (by omega)) (hs := (by first | assumption | exact (g1.1 _).trans rfl)) (hi := rfl) (hn := (by omega)) (k := ?_)
          refine r_aload_n hm rfl (k := ?_)
          refine r_getR (hm := hm) (hf := rfl) (hd := rfl) (hs := (by first | assumption | exact (g1.1 _).trans rfl)) (hv := (by first | exact putI_eq | exact (putI_ne (by omega)).trans (by first | exact putI_eq | exact (putI_ne (by omega)).trans (by first | exact putI_eq | exact (putI_ne (by omega)).trans (by first | first | assumption | exact g1.2 _ _ _ rfl | exact vus _ (by omega) (by omega) | exact eLo _ (by omega) | exact eLp _ (by omega)) | first | assumption | exact g1.2 _ _ _ rfl | exact vus _ (by omega) (by omega) | exact eLo _ (by omega) | exact eLp _ (by omega)) | first | assumption | exact g1.2 _ _ _ rfl | exact vus _ (by omega) (by omega) | exact eLo _ (by omega) | exact eLp _ (by omega)) | first | assumption | exact g1.2 _ _ _ rfl | exact vus _ (by omega) (by omega) | exact eLo _ (by omega) | exact eLp _ (by omega))) (k := ?_)
          refine r_aload_n hm rfl (k := ?_)
          refine r_getI (hm := hm) (hf := rfl) (hd := rfl) (hs := (by first | assumption | exact (g1.1 _).trans rfl)) (hv := (by first | exact putI_eq | exact (putI_ne (by omega)).trans (by first | exact putI_eq | exact (putI_ne (by omega)).trans (by first | exact putI_eq | exact (putI_ne (by omega)).trans (by first | first | assumption | exact g1.2 _ _ _ rfl | exact vus _ (by omega) (by omega) | exact eLo _ (by omega) | exact eLp _ (by omega)) | first | assumption | exact g1.2 _ _ _ rfl | exact vus _ (by omega) (by omega) | exact eLo _ (by omega) | exact eLp _ (by omega)) | first | assumption | exact g1.2 _ _ _ rfl | exact vus _ (by omega) (by omega) | exact eLo _ (by omega) | exact eLp _ (by omega)) | first | assumption | exact g1.2 _ _ _ rfl | exact vus _ (by omega) (by omega) | exact eLo _ (by omega) | exact eLp _ (by omega))) (k := ?_)
          refine r_dup2 hm rfl (k := ?_)
          refine r_iald (hm := hm) (hf := rfl) (hs := (by first | assumption | exact (g1.1 _).trans rfl)) (hi := rfl) (hn := (by omega)) (hv := (by first | exact putI_eq | exact (putI_ne (by omega)).trans (by first | exact putI_eq | exact (putI_ne (by omega)).trans (by first | exact putI_eq | exact (putI_ne (by omega)).trans (by first | first | assumption | exact g1.2 _ _ _ rfl | exact vus _ (by omega) (by omega) | exact eLo _ (by omega) | exact eLp _ (by omega)) | first | assumption | exact g1.2 _ _ _ rfl | exact vus _ (by omega) (by omega) | exact eLo _ (by omega) | exact eLp _ (by omega)) | first | assumption | exact g1.2 _ _ _ rfl | exact vus _ (by omega) (by omega) | exact eLo _ (by omega) | exact eLp _ (by omega)) | first | assumption | exact g1.2 _ _ _ rfl | exact vus _ (by omega) (by omega) | exact eLo _ (by omega) | exact eLp _ (by omega))) (k := ?_)
          refine r_aload_n hm rfl (k := ?_)
          refine r_getR (hm := hm) (hf := rfl) (hd := rfl) (hs := (by first | assumption | exact (g1.1 _).trans rfl)) (hv := (by first | exact putI_eq | exact (putI_ne (by omega)).trans (by first | exact putI_eq | exact (putI_ne (by omega)).trans (by first | exact putI_eq | exact (putI_ne (by omega)).trans (by first | first | assumption | exact g1.2 _ _ _ rfl | exact vus _ (by omega) (by omega) | exact eLo _ (by omega) | exact eLp _ (by omega)) | first | assumption | exact g1.2 _ _ _ rfl | exact vus _ (by omega) (by omega) | exact eLo _ (by omega) | exact eLp _ (by omega)) | first | assumption | exact g1.2 _ _ _ rfl | exact vus _ (by omega) (by omega) | exact eLo _ (by omega) | exact eLp _ (by omega)) | first | assumption | exact g1.2 _ _ _ rfl | exact vus _ (by omega) (by omega) | exact eLo _ (by omega) | exact eLp _ (by omega))) (k := ?_)
          refine r_iload_n hm rfl (k := ?_)
          refine r_iald (hm := hm) (hf := rfl) (hs := (by first | assumption | exact (g1.1 _).trans rfl)) (hi := rfl) (hn := (by omega)) (hv := (by first | exact putI_eq | exact (putI_ne (by omega)).trans (by first | exact putI_eq | exact (putI_ne (by omega)).trans (by first | exact putI_eq | exact (putI_ne (by omega)).trans (by first | first | assumption | exact g1.2 _ _ _ rfl | exact vus _ (by omega) (by omega) | exact eLo _ (by omega) | exact eLp _ (by omega)) | first | assumption | exact g1.2 _ _ _ rfl | exact vus _ (by omega) (by omega) | exact eLo _ (by omega) | exact eLp _ (by omega)) | first | assumption | exact g1.2 _ _ _ rfl | exact vus _ (by omega) (by omega) | exact eLo _ (by omega) | exact eLp _ (by omega)) | first | assumption | exact g1.2 _ _ _ rfl | exact vus _ (by omega) (by omega) | exact eLo _ (by omega) | exact eLp _ (by omega))) (k := ?_)
          refine r_iadd hm rfl (hr := (by omega)) (k := ?_)
          refine r_iast (hm := hm) (hf := rfl) (h28 := (by omega)) (hs := (by first | assumption | exact (g1.1 _).trans rfl)) (hi := rfl) (hn := (by omega)) (k := ?_)
          refine r_goto (t := 329) hm rfl (k := ?_)
          refine r_return hm rfl rfl (Nat.le_of_ble_eq_true rfl) (Nat.le_of_ble_eq_true rfl) ?_
          have eI : iS x H lt i q = (tk (se (sf (rm x H (hli (x.2.1 2 i) + 2) (if x.2.1 2 i = 1 ∧ x.2.2.2 12 = 1 ∧ q.2.1 q.1 ≠ 0 then tn x H q else q)) i) i) (hli (x.2.1 2 i)), fun _ => 0) := by
            unfold iS
            rw [if_pos (show x.2.1 1 i = 0 by omega)]
          have eN : lnc x lt i = hli (x.2.1 2 i) := by
            unfold lnc
            rw [if_pos (show x.2.1 1 i = 0 by omega)]
          rw [eI, eN]
          refine ⟨(Sm.put (Sm.put (Sm.put S1 (by unfold regW; omega)) (by unfold regW; omega)) (by unfold regW; omega)), ?_, ?_, fun k hk => by omega, rfl⟩
          · unfold PgM
            simp (disch := omega) only [putI_fne, putI_feq, upf_ne, upf_eq]
            exact hqB.sf.se.tk
          · simp (disch := omega) only [putI_fne, putI_feq, upf_ne, upf_eq]
            exact eln
        · refine r_aload_n hm rfl (k := ?_)
          refine r_callv (j2 := 189) hm rfl rfl rfl rfl rfl rfl (by first | assumption | exact (g1.1 _).trans rfl) (Nat.le_of_ble_eq_true rfl) (Nat.le_of_ble_eq_true rfl) rfl ⟨Nat.le_of_ble_eq_true rfl, Nat.le_of_ble_eq_true rfl, Nat.le_of_ble_eq_true rfl, Nat.le_of_ble_eq_true rfl, Nat.le_of_ble_eq_true rfl⟩ rfl (m_newPage g1 hc1 hc3 hR1 hH hq ok.1 (by omega) (by omega) (by omega) (by omega)) (fun v9 hA p9 => ?_)
          obtain ⟨SB, hq1, e1⟩ := p9
          subst e1
          replace S1 : Sm (fun a k => regW a k ∨ a = 1113 ∨ a = 1114 ∨ (a = 1109 ∧ k = i) ∨ ((a = 1104 ∨ a = 1105) ∧ 20 * i ≤ k ∧ k < 20 * i + 20)) h hA := S1.trans (SB.mono (fun a k z => Or.inl z))
          have g1 := S1.gg g
          have hc1 := (S1.2.2 1085 12 (by unfold regW; omega)).trans hc
          have hR1 := S1.repM (fun a k q9 => by unfold regW at q9; omega) hR
          obtain ⟨M0, M1, M2, M3, M4, Q0, Q1, Q2, S0, N0, N1⟩ := hR1.use
          change RN 188 45 _ _ _ 0 0 _
          dsimp only [Option.toList, List.nil_append]
          have e39 : (if x.2.1 2 i = 1 ∧ x.2.2.2 12 = 1 ∧ q.2.1 q.1 ≠ 0 then tn x H q else q) = tn x H q := if_pos (by omega)
          have ok1 := hd_ok (x := x) (H := H) (p := x.2.1 2 i = 1 ∧ x.2.2.2 12 = 1 ∧ q.2.1 q.1 ≠ 0) hH (by omega) ok (fun e => e.2.2)
          rw [← e39] at hq1
          refine r_aload_n hm rfl (k := ?_)
          refine r_getR (hm := hm) (hf := rfl) (hd := rfl) (hs := (by first | assumption | exact (g1.1 _).trans rfl)) (hv := (by first | exact putI_eq | exact (putI_ne (by omega)).trans (by first | exact putI_eq | exact (putI_ne (by omega)).trans (by first | exact putI_eq | exact (putI_ne (by omega)).trans (by first | first | assumption | exact g1.2 _ _ _ rfl | exact vus _ (by omega) (by omega) | exact eLo _ (by omega) | exact eLp _ (by omega)) | first | assumption | exact g1.2 _ _ _ rfl | exact vus _ (by omega) (by omega) | exact eLo _ (by omega) | exact eLp _ (by omega)) | first | assumption | exact g1.2 _ _ _ rfl | exact vus _ (by omega) (by omega) | exact eLo _ (by omega) | exact eLp _ (by omega)) | first | assumption | exact g1.2 _ _ _ rfl | exact vus _ (by omega) (by omega) | exact eLo _ (by omega) | exact eLp _ (by omega))) (k := ?_)
          refine r_iload_n hm rfl (k := ?_)
          refine r_aload_n hm rfl (k := ?_)
          refine r_iload_n hm rfl (k := ?_)
          refine r_callv (j2 := 175) hm rfl rfl rfl rfl rfl rfl (by first | assumption | exact (g1.1 _).trans rfl) (Nat.le_of_ble_eq_true rfl) (Nat.le_of_ble_eq_true rfl) rfl ⟨Nat.le_of_ble_eq_true rfl, Nat.le_of_ble_eq_true rfl, Nat.le_of_ble_eq_true rfl, Nat.le_of_ble_eq_true rfl, Nat.le_of_ble_eq_true rfl⟩ rfl (m_a g1 hc1 hc3 hR1 (i := i) hi) (fun v9 h9 p9 => ?_)
          obtain ⟨e1, e2⟩ := p9
          subst e2
          replace e1 := e1.symm
          subst e1
          change RN 188 55 _ _ _ 0 0 _
          dsimp only [Option.toList, List.cons_append, List.nil_append]
          refine r_calls (j2 := 190) hm rfl rfl rfl rfl rfl rfl (Nat.le_of_ble_eq_true rfl) (Nat.le_of_ble_eq_true rfl) rfl ⟨Nat.le_of_ble_eq_true rfl, Nat.le_of_ble_eq_true rfl, Nat.le_of_ble_eq_true rfl, Nat.le_of_ble_eq_true rfl, Nat.le_of_ble_eq_true rfl⟩ rfl (m_highOf) (fun v9 h9 p9 => ?_)
          obtain ⟨e1, e2⟩ := p9
          subst e2
          replace e1 := e1.symm
          subst e1
          change RN 188 58 _ _ _ 0 0 _
          dsimp only [Option.toList, List.cons_append, List.nil_append]
          refine r_iast (hm := hm) (hf := rfl) (h28 := (by omega)) (hs := (by first | assumption | exact (g1.1 _).trans rfl)) (hi := rfl) (hn := (by omega)) (k := ?_)
          refine RN.abs (fun h1 => Sm (fun a k => regW a k ∨ a = 1113 ∨ a = 1114 ∨ (a = 1109 ∧ k = i) ∨ ((a = 1104 ∨ a = 1105) ∧ 20 * i ≤ k ∧ k < 20 * i + 20)) h h1 ∧ PgM h1 H (if x.2.1 2 i = 1 ∧ x.2.2.2 12 = 1 ∧ q.2.1 q.1 ≠ 0 then tn x H q else q) ∧ h1.2.1 1109 i = hli (x.2.1 2 i)) ⟨Sm.put S1 (by unfold regW; omega), hq1.same (Sm.put (S := fun a k => a = 1109) Sm.refl rfl) (fun a k z => by unfold regW; omega), putI_eq⟩ (fun h1 H9 => ?_)
          obtain ⟨S1, hqX, eln⟩ := H9
          have g1 := S1.gg g
          have hc1 := (S1.2.2 1085 12 (by unfold regW; omega)).trans hc
          have hR1 := S1.repM (fun a k q9 => by unfold regW at q9; omega) hR
          obtain ⟨M0, M1, M2, M3, M4, Q0, Q1, Q2, S0, N0, N1⟩ := hR1.use
          have qm := m_room g1 hc1 hc3 hR1 hH hqX ok1 (by omega) (by omega) (by omega) (n := hli (x.2.1 2 i) + 2) (by omega)
          obtain ⟨c1, c2, c3⟩ := rm_ok (n := hli (x.2.1 2 i) + 2) hH (by omega) ok1
          have c4 := c1.rng (by omega)
          refine r_aload_n hm rfl (k := ?_)
          refine r_aload_n hm rfl (k := ?_)
          refine r_getR (hm := hm) (hf := rfl) (hd := rfl) (hs := (by first | assumption | exact (g1.1 _).trans rfl)) (hv := (by first | exact putI_eq | exact (putI_ne (by omega)).trans (by first | exact putI_eq | exact (putI_ne (by omega)).trans (by first | exact putI_eq | exact (putI_ne (by omega)).trans (by first | first | assumption | exact g1.2 _ _ _ rfl | exact vus _ (by omega) (by omega) | exact eLo _ (by omega) | exact eLp _ (by omega)) | first | assumption | exact g1.2 _ _ _ rfl | exact vus _ (by omega) (by omega) | exact eLo _ (by omega) | exact eLp _ (by omega)) | first | assumption | exact g1.2 _ _ _ rfl | exact vus _ (by omega) (by omega) | exact eLo _ (by omega) | exact eLp _ (by omega)) | first | assumption | exact g1.2 _ _ _ rfl | exact vus _ (by omega) (by omega) | exact eLo _ (by omega) | exact eLp _ (by omega))) (k := ?_)
          refine r_iload_n hm rfl (k := ?_)
          refine r_iald (hm := hm) (hf := rfl) (hs := (by first | assumption | exact (g1.1 _).trans rfl)) (hi := rfl) (hn := (by omega)) (hv := (by first | exact putI_eq | exact (putI_ne (by omega)).trans (by first | exact putI_eq | exact (putI_ne (by omega)).trans (by first | exact putI_eq | exact (putI_ne (by omega)).trans (by first | first | assumption | exact g1.2 _ _ _ rfl | exact vus _ (by omega) (by omega) | exact eLo _ (by omega) | exact eLp _ (by omega)) | first | assumption | exact g1.2 _ _ _ rfl | exact vus _ (by omega) (by omega) | exact eLo _ (by omega) | exact eLp _ (by omega)) | first | assumption | exact g1.2 _ _ _ rfl | exact vus _ (by omega) (by omega) | exact eLo _ (by omega) | exact eLp _ (by omega)) | first | assumption | exact g1.2 _ _ _ rfl | exact vus _ (by omega) (by omega) | exact eLo _ (by omega) | exact eLp _ (by omega))) (k := ?_)
          refine r_iconst hm rfl (k := ?_)
          refine r_iadd hm rfl (hr := (by omega)) (k := ?_)
          refine r_callv (j2 := 191) hm rfl rfl rfl rfl rfl rfl (by first | assumption | exact (g1.1 _).trans rfl) (Nat.le_of_ble_eq_true rfl) (Nat.le_of_ble_eq_true rfl) rfl ⟨Nat.le_of_ble_eq_true rfl, Nat.le_of_ble_eq_true rfl, Nat.le_of_ble_eq_true rfl, Nat.le_of_ble_eq_true rfl, Nat.le_of_ble_eq_true rfl⟩ rfl (qm) (fun v9 hB p9 => ?_)
          obtain ⟨SB, hqB, e1⟩ := p9
          subst e1
          replace eln : hB.2.1 1109 i = hli (x.2.1 2 i) := (SB.2.2 _ _ (by unfold regW; omega)).trans eln
          replace S1 : Sm (fun a k => regW a k ∨ a = 1113 ∨ a = 1114 ∨ (a = 1109 ∧ k = i) ∨ ((a = 1104 ∨ a = 1105) ∧ 20 * i ≤ k ∧ k < 20 * i + 20)) h hB := S1.trans (SB.mono (fun a k z => Or.inl z))
          have g1 := S1.gg g
          have hc1 := (S1.2.2 1085 12 (by unfold regW; omega)).trans hc
          have hR1 := S1.repM (fun a k q9 => by unfold regW at q9; omega) hR
          obtain ⟨M0, M1, M2, M3, M4, Q0, Q1, Q2, S0, N0, N1⟩ := hR1.use
          obtain ⟨v5, v6, v7, v8, vus, vfp, vlp, vwr⟩ := id hqB
          change RN 188 71 _ _ _ 0 0 _
          dsimp only [Option.toList, List.nil_append]
          refine r_aload_n hm rfl (k := ?_)
          refine r_getR (hm := hm) (hf := rfl) (hd := rfl) (hs := (by first | assumption | exact (g1.1 _).trans rfl)) (hv := (by first | exact putI_eq | exact (putI_ne (by omega)).trans (by first | exact putI_eq | exact (putI_ne (by omega)).trans (by first | exact putI_eq | exact (putI_ne (by omega)).trans (by first | first | assumption | exact g1.2 _ _ _ rfl | exact vus _ (by omega) (by omega) | exact eLo _ (by omega) | exact eLp _ (by omega)) | first | assumption | exact g1.2 _ _ _ rfl | exact vus _ (by omega) (by omega) | exact eLo _ (by omega) | exact eLp _ (by omega)) | first | assumption | exact g1.2 _ _ _ rfl | exact vus _ (by omega) (by omega) | exact eLo _ (by omega) | exact eLp _ (by omega)) | first | assumption | exact g1.2 _ _ _ rfl | exact vus _ (by omega) (by omega) | exact eLo _ (by omega) | exact eLp _ (by omega))) (k := ?_)
          refine r_iload_n hm rfl (k := ?_)
          refine r_aload_n hm rfl (k := ?_)
          refine r_getI (hm := hm) (hf := rfl) (hd := rfl) (hs := (by first | assumption | exact (g1.1 _).trans rfl)) (hv := (by first | exact putI_eq | exact (putI_ne (by omega)).trans (by first | exact putI_eq | exact (putI_ne (by omega)).trans (by first | exact putI_eq | exact (putI_ne (by omega)).trans (by first | first | assumption | exact g1.2 _ _ _ rfl | exact vus _ (by omega) (by omega) | exact eLo _ (by omega) | exact eLp _ (by omega)) | first | assumption | exact g1.2 _ _ _ rfl | exact vus _ (by omega) (by omega) | exact eLo _ (by omega) | exact eLp _ (by omega)) | first | assumption | exact g1.2 _ _ _ rfl | exact vus _ (by omega) (by omega) | exact eLo _ (by omega) | exact eLp _ (by omega)) | first | assumption | exact g1.2 _ _ _ rfl | exact vus _ (by omega) (by omega) | exact eLo _ (by omega) | exact eLp _ (by omega))) (k := ?_)
          refine r_iast (hm := hm) (hf := rfl) (h28 := (by omega)) (hs := (by first | assumption | exact (g1.1 _).trans rfl)) (hi := rfl) (hn := (by omega)) (k := ?_)
          refine r_aload_n hm rfl (k := ?_)
          refine r_getR (hm := hm) (hf := rfl) (hd := rfl) (hs := (by first | assumption | exact (g1.1 _).trans rfl)) (hv := (by first | exact putI_eq | exact (putI_ne (by omega)).trans (by first | exact putI_eq | exact (putI_ne (by omega)).trans (by first | exact putI_eq | exact (putI_ne (by omega)).trans (by first | first | assumption | exact g1.2 _ _ _ rfl | exact vus _ (by omega) (by omega) | exact eLo _ (by omega) | exact eLp _ (by omega)) | first | assumption | exact g1.2 _ _ _ rfl | exact vus _ (by omega) (by omega) | exact eLo _ (by omega) | exact eLp _ (by omega)) | first | assumption | exact g1.2 _ _ _ rfl | exact vus _ (by omega) (by omega) | exact eLo _ (by omega) | exact eLp _ (by omega)) | first | assumption | exact g1.2 _ _ _ rfl | exact vus _ (by omega) (by omega) | exact eLo _ (by omega) | exact eLp _ (by omega))) (k := ?_)
          refine r_iload_n hm rfl (k := ?_)
          refine r_aload_n hm rfl (k := ?_)
          refine r_getI (hm := hm) (hf := rfl) (hd := rfl) (hs := (by first | assumption | exact (g1.1 _).trans rfl)) (hv := (by first | exact putI_eq | exact (putI_ne (by omega)).trans (by first | exact putI_eq | exact (putI_ne (by omega)).trans (by first | exact putI_eq | exact (putI_ne (by omega)).trans (by first | first | assumption | exact g1.2 _ _ _ rfl | exact vus _ (by omega) (by omega) | exact eLo _ (by omega) | exact eLp _ (by omega)) | first | assumption | exact g1.2 _ _ _ rfl | exact vus _ (by omega) (by omega) | exact eLo _ (by omega) | exact eLp _ (by omega)) | first | assumption | exact g1.2 _ _ _ rfl | exact vus _ (by omega) (by omega) | exact eLo _ (by omega) | exact eLp _ (by omega)) | first | assumption | exact g1.2 _ _ _ rfl | exact vus _ (by omega) (by omega) | exact eLo _ (by omega) | exact eLp _ (by omega))) (k := ?_)
          refine r_iast (hm := hm) (hf := rfl) (h28 := (by omega)) (hs := (by first | assumption | exact (g1.1 _).trans rfl)) (hi := rfl) (hn := (by omega)) (k := ?_)
          refine r_aload_n hm rfl (k := ?_)
          refine r_getR (hm := hm) (hf := rfl) (hd := rfl) (hs := (by first | assumption | exact (g1.1 _).trans rfl)) (hv := (by first | exact putI_eq | exact (putI_ne (by omega)).trans (by first | exact putI_eq | exact (putI_ne (by omega)).trans (by first | exact putI_eq | exact (putI_ne (by omega)).trans (by first | first | assumption | exact g1.2 _ _ _ rfl | exact vus _ (by omega) (by omega) | exact eLo _ (by omega) | exact eLp _ (by omega)) | first | assumption | exact g1.2 _ _ _ rfl | exact vus _ (by omega) (by omega) | exact eLo _ (by omega) | exact eLp _ (by omega)) | first | assumption | exact g1.2 _ _ _ rfl | exact vus _ (by omega) (by omega) | exact eLo _ (by omega) | exact eLp _ (by omega)) | first | assumption | exact g1.2 _ _ _ rfl | exact vus _ (by omega) (by omega) | exact eLo _ (by omega) | exact eLp _ (by omega))) (k := ?_)
          refine r_aload_n hm rfl (k := ?_)
          refine r_getI (hm := hm) (hf := rfl) (hd := rfl) (hs := (by first | assumption | exact (g1.1 _).trans rfl)) (hv := (by first | exact putI_eq | exact (putI_ne (by omega)).trans (by first | exact putI_eq | exact (putI_ne (by omega)).trans (by first | exact putI_eq | exact (putI_ne (by omega)).trans (by first | first | assumption | exact g1.2 _ _ _ rfl | exact vus _ (by omega) (by omega) | exact eLo _ (by omega) | exact eLp _ (by omega)) | first | assumption | exact g1.2 _ _ _ rfl | exact vus _ (by omega) (by omega) | exact eLo _ (by omega) | exact eLp _ (by omega)) | first | assumption | exact g1.2 _ _ _ rfl | exact vus _ (by omega) (by omega) | exact eLo _ (by omega) | exact eLp _ (by omega)) | first | assumption | exact g1.2 _ _ _ rfl | exact vus _ (by omega) (by omega) | exact eLo _ (by omega) | exact eLp _ (by omega))) (k := ?_)
          refine r_dup2 hm rfl (k := ?_)
          refine r_iald (hm := hm) (hf := rfl) (hs := (by first | assumption | exact (g1.1 _).trans rfl)) (hi := rfl) (hn := (by omega)) (hv := (by first | exact putI_eq | exact (putI_ne (by omega)).trans (by first | exact putI_eq | exact (putI_ne (by omega)).trans (by first | exact putI_eq | exact (putI_ne (by omega)).trans (by first | first | assumption | exact g1.2 _ _ _ rfl | exact vus _ (by omega) (by omega) | exact eLo _ (by omega) | exact eLp _ (by omega)) | first | assumption | exact g1.2 _ _ _ rfl | exact vus _ (by omega) (by omega) | exact eLo _ (by omega) | exact eLp _ (by omega)) | first | assumption | exact g1.2 _ _ _ rfl | exact vus _ (by omega) (by omega) | exact eLo _ (by omega) | exact eLp _ (by omega)) | first | assumption | exact g1.2 _ _ _ rfl | exact vus _ (by omega) (by omega) | exact eLo _ (by omega) | exact eLp _ (by omega))) (k := ?_)
          refine r_aload_n hm rfl (k := ?_)
          refine r_getR (hm := hm) (hf := rfl) (hd := rfl) (hs := (by first | assumption | exact (g1.1 _).trans rfl)) (hv := (by first | exact putI_eq | exact (putI_ne (by omega)).trans (by first | exact putI_eq | exact (putI_ne (by omega)).trans (by first | exact putI_eq | exact (putI_ne (by omega)).trans (by first | first | assumption | exact g1.2 _ _ _ rfl | exact vus _ (by omega) (by omega) | exact eLo _ (by omega) | exact eLp _ (by omega)) | first | assumption | exact g1.2 _ _ _ rfl | exact vus _ (by omega) (by omega) | exact eLo _ (by omega) | exact eLp _ (by omega)) | first | assumption | exact g1.2 _ _ _ rfl | exact vus _ (by omega) (by omega) | exact eLo _ (by omega) | exact eLp _ (by omega)) | first | assumption | exact g1.2 _ _ _ rfl | exact vus _ (by omega) (by omega) | exact eLo _ (by omega) | exact eLp _ (by omega))) (k := ?_)
          refine r_iload_n hm rfl (k := ?_)
          refine r_iald (hm := hm) (hf := rfl) (hs := (by first | assumption | exact (g1.1 _).trans rfl)) (hi := rfl) (hn := (by omega)) (hv := (by first | exact putI_eq | exact (putI_ne (by omega)).trans (by first | exact putI_eq | exact (putI_ne (by omega)).trans (by first | exact putI_eq | exact (putI_ne (by omega)).trans (by first | first | assumption | exact g1.2 _ _ _ rfl | exact vus _ (by omega) (by omega) | exact eLo _ (by omega) | exact eLp _ (by omega)) | first | assumption | exact g1.2 _ _ _ rfl | exact vus _ (by omega) (by omega) | exact eLo _ (by omega) | exact eLp _ (by omega)) | first | assumption | exact g1.2 _ _ _ rfl | exact vus _ (by omega) (by omega) | exact eLo _ (by omega) | exact eLp _ (by omega)) | first | assumption | exact g1.2 _ _ _ rfl | exact vus _ (by omega) (by omega) | exact eLo _ (by omega) | exact eLp _ (by omega))) (k := ?_)
          refine r_iadd hm rfl (hr := (by omega)) (k := ?_)
          refine r_iast (hm := hm) (hf := rfl) (h28 := (by omega)) (hs := (by first | assumption | exact (g1.1 _).trans rfl)) (hi := rfl) (hn := (by omega)) (k := ?_)
          refine r_goto (t := 329) hm rfl (k := ?_)
          refine r_return hm rfl rfl (Nat.le_of_ble_eq_true rfl) (Nat.le_of_ble_eq_true rfl) ?_
          have eI : iS x H lt i q = (tk (se (sf (rm x H (hli (x.2.1 2 i) + 2) (if x.2.1 2 i = 1 ∧ x.2.2.2 12 = 1 ∧ q.2.1 q.1 ≠ 0 then tn x H q else q)) i) i) (hli (x.2.1 2 i)), fun _ => 0) := by
            unfold iS
            rw [if_pos (show x.2.1 1 i = 0 by omega)]
          have eN : lnc x lt i = hli (x.2.1 2 i) := by
            unfold lnc
            rw [if_pos (show x.2.1 1 i = 0 by omega)]
          rw [eI, eN]
          refine ⟨(Sm.put (Sm.put (Sm.put S1 (by unfold regW; omega)) (by unfold regW; omega)) (by unfold regW; omega)), ?_, ?_, fun k hk => by omega, rfl⟩
          · unfold PgM
            simp (disch := omega) only [putI_fne, putI_feq, upf_ne, upf_eq]
            exact hqB.sf.se.tk
          · simp (disch := omega) only [putI_fne, putI_feq, upf_ne, upf_eq]
            exact eln
set_option maxRecDepth 8000 in
theorem m_setRound {L : Nat} {h : Hp} {c : Nat} {x : Tx} (g : GG L h) (hc : h.2.1 1085 12 = (c : Int)) (hc3 : c ≤ 3) (hR : RepM h c x) {lt : LT} {r : Nat} {H : Int} (hok : okTx x) (hl : okLt x lt) (hr : r ≤ 11) (hLt : ∀ q k, q < x.1 → k < pcs x q → h.2.1 1103 (1200 * r + 20 * q + k) = lt q k) (hH : 8 ≤ H ∧ H ≤ 60) (hH9 : h.2.1 1085 29 = H) : RN 187 0 [some (.inr (.inr (some 1085))), some (.inl (r : Int)), none] [] h 0 0 (fun v h2 => Sm (fun a k => regW a k ∨ a = 1113 ∨ a = 1114 ∨ a = 1109 ∨ a = 1104 ∨ a = 1105 ∨ (a = 1111 ∧ k = r)) h h2 ∧ PgM h2 H (psf x H lt) ∧ LyM h2 x lt x.1 (ppf x H lt) ∧ h2.2.1 1111 r = (if x.1 = 0 then 0 else ((psf x H lt).1 : Int)) ∧ v = none) := by
  have hm : mrec 187 = some nM187 := rfl
  have n60 := hok.1
  have g1 := g
  refine r_aload_n hm rfl (k := ?_)
  refine r_iconst hm rfl (k := ?_)
  refine r_putI (hm := hm) (hf := rfl) (hd := rfl) (hs := (by first | assumption | exact (g1.1 _).trans rfl)) (hfin := Or.inl rfl) (hz := fun q9 => absurd q9 (by decide)) (k := ?_)
  refine r_aload_n hm rfl (k := ?_)
  refine r_getR (hm := hm) (hf := rfl) (hd := rfl) (hs := (by first | assumption | exact (g1.1 _).trans rfl)) (hv := (by first | exact putI_eq | exact (putI_ne (by omega)).trans (by first | exact putI_eq | exact (putI_ne (by omega)).trans (by first | first | assumption | exact g1.2 _ _ _ rfl) | first | assumption | exact g1.2 _ _ _ rfl) | first | assumption | exact g1.2 _ _ _ rfl)) (k := ?_)
  refine r_iconst hm rfl (k := ?_)
  refine r_iconst hm rfl (k := ?_)
  refine r_iast (hm := hm) (hf := rfl) (h28 := (by omega)) (hs := (by first | assumption | exact (g1.1 _).trans rfl)) (kk := 1) (hi := by omega) (hn := (by omega)) (k := ?_)
  refine r_aload_n hm rfl (k := ?_)
  refine r_iconst hm rfl (k := ?_)
  refine r_putI (hm := hm) (hf := rfl) (hd := rfl) (hs := (by first | assumption | exact (g1.1 _).trans rfl)) (hfin := Or.inl rfl) (hz := fun q9 => absurd q9 (by decide)) (k := ?_)
  refine r_aload_n hm rfl (k := ?_)
  refine r_iconst hm rfl (k := ?_)
  refine r_putI (hm := hm) (hf := rfl) (hd := rfl) (hs := (by first | assumption | exact (g1.1 _).trans rfl)) (hfin := Or.inl rfl) (hz := fun q9 => absurd q9 (by decide)) (k := ?_)
  refine r_iconst hm rfl (k := ?_)
  refine r_istore_n hm rfl (k := ?_)
  suffices LP : ∀ (d i : Nat) (h1 : Hp), i + d = x.1 → Sm (fun a k => regW a k ∨ a = 1113 ∨ a = 1114 ∨ a = 1109 ∨ a = 1104 ∨ a = 1105 ∨ (a = 1111 ∧ k = r)) h h1 → PgM h1 H (ly x H lt i).1 → LyM h1 x lt i (ly x H lt i).2 → RN 187 24 [some (.inr (.inr (some 1085))), some (.inl (r : Int)), some (.inl (i : Int))] [] h1 0 0 (fun v h2 => Sm (fun a k => regW a k ∨ a = 1113 ∨ a = 1114 ∨ a = 1109 ∨ a = 1104 ∨ a = 1105 ∨ (a = 1111 ∧ k = r)) h h2 ∧ PgM h2 H (psf x H lt) ∧ LyM h2 x lt x.1 (ppf x H lt) ∧ h2.2.1 1111 r = (if x.1 = 0 then 0 else ((psf x H lt).1 : Int)) ∧ v = none) from LP x.1 0 _ (by omega) (Sm.put (Sm.put (Sm.put (Sm.put Sm.refl (by unfold regW; omega)) (by unfold regW; omega)) (by unfold regW; omega)) (by unfold regW; omega)) (by
    unfold PgM PgV
    simp (disch := omega) only [putI_fne, putI_feq, upf_ne, upf_eq]
    refine ⟨by trivial, hH9, by trivial, by trivial, fun k k1 k2 => ?_, fun i hi => absurd rfl hi, fun i hi => absurd rfl hi, fun k hk => absurd hk (Nat.not_lt_zero _)⟩
    have k3 : k ≤ 1 := k2
    rw [show k = 1 by omega, upf_eq]
    rfl) ⟨fun q hq => absurd hq (Nat.not_lt_zero _), fun q k hq => absurd hq (Nat.not_lt_zero _)⟩
  refine fun d => Nat.strongRecOn d (fun d ih => ?_)
  intro i h1 hd S1 hq hy
  have g1 := S1.gg g
  have hc1 := (S1.2.2 1085 12 (by unfold regW; omega)).trans hc
  have hR1 := S1.repM (fun a k q9 => by unfold regW at q9; omega) hR
  obtain ⟨M0, M1, M2, M3, M4, Q0, Q1, Q2, S0, N0, N1⟩ := hR1.use
  obtain ⟨ok, -⟩ := ly_ok hok hl hH i (by omega)
  refine r_iload_n hm rfl (k := ?_)
  refine r_aload_n hm rfl (k := ?_)
  refine r_getR (hm := hm) (hf := rfl) (hd := rfl) (hs := (by first | assumption | exact (g1.1 _).trans rfl)) (hv := (by first | exact putI_eq | exact (putI_ne (by omega)).trans (by first | exact putI_eq | exact (putI_ne (by omega)).trans (by first | first | assumption | exact g1.2 _ _ _ rfl) | first | assumption | exact g1.2 _ _ _ rfl) | first | assumption | exact g1.2 _ _ _ rfl)) (k := ?_)
  refine r_aload_n hm rfl (k := ?_)
  refine r_getI (hm := hm) (hf := rfl) (hd := rfl) (hs := (by first | assumption | exact (g1.1 _).trans rfl)) (hv := (by first | exact putI_eq | exact (putI_ne (by omega)).trans (by first | exact putI_eq | exact (putI_ne (by omega)).trans (by first | first | assumption | exact g1.2 _ _ _ rfl) | first | assumption | exact g1.2 _ _ _ rfl) | first | assumption | exact g1.2 _ _ _ rfl)) (k := ?_)
  refine r_iald (hm := hm) (hf := rfl) (hs := (by first | assumption | exact (g1.1 _).trans rfl)) (kk := c) (hi := by omega) (hn := (by omega)) (hv := (by first | exact putI_eq | exact (putI_ne (by omega)).trans (by first | exact putI_eq | exact (putI_ne (by omega)).trans (by first | first | assumption | exact g1.2 _ _ _ rfl) | first | assumption | exact g1.2 _ _ _ rfl) | first | assumption | exact g1.2 _ _ _ rfl)) (k := ?_)
  refine r_icmp_ge (t := 49) hm rfl rfl (fun c34 => ?_) (fun c34 => ?_)
  · have ei : i = x.1 := by omega
    subst ei
    suffices LP : ∀ (d : Nat) (q : PS) (h1 : Hp), q.2.2.2.2.2.1 - q.2.2.2.2.1 ≤ d → d ≤ 60 → Sm (fun a k => regW a k ∨ a = 1113 ∨ a = 1114 ∨ a = 1109 ∨ a = 1104 ∨ a = 1105 ∨ (a = 1111 ∧ k = r)) h h1 → PgM h1 H q → PSok x (TT x x.1) x.1 q → LyM h1 x lt x.1 (ly x H lt x.1).2 → enN x H d q = psf x H lt → RN 187 49 [some (.inr (.inr (some 1085))), some (.inl (r : Int)), some (.inl (x.1 : Int))] [] h1 0 0 (fun v h2 => Sm (fun a k => regW a k ∨ a = 1113 ∨ a = 1114 ∨ a = 1109 ∨ a = 1104 ∨ a = 1105 ∨ (a = 1111 ∧ k = r)) h h2 ∧ PgM h2 H (psf x H lt) ∧ LyM h2 x lt x.1 (ppf x H lt) ∧ h2.2.1 1111 r = (if x.1 = 0 then 0 else ((psf x H lt).1 : Int)) ∧ v = none) from LP 60 _ _ (by have := ok.1.2.2.2.2.2.1; omega) (by omega) S1 hq ok hy rfl
    clear ih hq hy ok S1
    refine fun d => Nat.strongRecOn d (fun d ih => ?_)
    intro q h1 hd hd2 S1 hq ok hy hen
    have g1 := S1.gg g
    have hc1 := (S1.2.2 1085 12 (by unfold regW; omega)).trans hc
    have hR1 := S1.repM (fun a k q9 => by unfold regW at q9; omega) hR
    obtain ⟨M0, M1, M2, M3, M4, Q0, Q1, Q2, S0, N0, N1⟩ := hR1.use
    obtain ⟨v5, v6, v7, v8, vus, vfp, vlp, vwr⟩ := id hq
    refine r_aload_n hm rfl (k := ?_)
    refine r_getI (hm := hm) (hf := rfl) (hd := rfl) (hs := (by first | assumption | exact (g1.1 _).trans rfl)) (hv := (by first | exact putI_eq | exact (putI_ne (by omega)).trans (by first | exact putI_eq | exact (putI_ne (by omega)).trans (by first | first | assumption | exact g1.2 _ _ _ rfl) | first | assumption | exact g1.2 _ _ _ rfl) | first | assumption | exact g1.2 _ _ _ rfl)) (k := ?_)
    refine r_aload_n hm rfl (k := ?_)
    refine r_getI (hm := hm) (hf := rfl) (hd := rfl) (hs := (by first | assumption | exact (g1.1 _).trans rfl)) (hv := (by first | exact putI_eq | exact (putI_ne (by omega)).trans (by first | exact putI_eq | exact (putI_ne (by omega)).trans (by first | first | assumption | exact g1.2 _ _ _ rfl) | first | assumption | exact g1.2 _ _ _ rfl) | first | assumption | exact g1.2 _ _ _ rfl)) (k := ?_)
    refine r_icmp_ge (t := 67) hm rfl rfl (fun c57 => ?_) (fun c57 => ?_)
    · refine r_aload_n hm rfl (k := ?_)
      refine r_getR (hm := hm) (hf := rfl) (hd := rfl) (hs := (by first | assumption | exact (g1.1 _).trans rfl)) (hv := (by first | exact putI_eq | exact (putI_ne (by omega)).trans (by first | exact putI_eq | exact (putI_ne (by omega)).trans (by first | first | assumption | exact g1.2 _ _ _ rfl) | first | assumption | exact g1.2 _ _ _ rfl) | first | assumption | exact g1.2 _ _ _ rfl)) (k := ?_)
      refine r_iload_n hm rfl (k := ?_)
      refine r_aload_n hm rfl (k := ?_)
      refine r_getR (hm := hm) (hf := rfl) (hd := rfl) (hs := (by first | assumption | exact (g1.1 _).trans rfl)) (hv := (by first | exact putI_eq | exact (putI_ne (by omega)).trans (by first | exact putI_eq | exact (putI_ne (by omega)).trans (by first | first | assumption | exact g1.2 _ _ _ rfl) | first | assumption | exact g1.2 _ _ _ rfl) | first | assumption | exact g1.2 _ _ _ rfl)) (k := ?_)
      refine r_aload_n hm rfl (k := ?_)
      refine r_getI (hm := hm) (hf := rfl) (hd := rfl) (hs := (by first | assumption | exact (g1.1 _).trans rfl)) (hv := (by first | exact putI_eq | exact (putI_ne (by omega)).trans (by first | exact putI_eq | exact (putI_ne (by omega)).trans (by first | first | assumption | exact g1.2 _ _ _ rfl) | first | assumption | exact g1.2 _ _ _ rfl) | first | assumption | exact g1.2 _ _ _ rfl)) (k := ?_)
      refine r_iald (hm := hm) (hf := rfl) (hs := (by first | assumption | exact (g1.1 _).trans rfl)) (kk := c) (hi := by omega) (hn := (by omega)) (hv := (by first | exact putI_eq | exact (putI_ne (by omega)).trans (by first | exact putI_eq | exact (putI_ne (by omega)).trans (by first | first | assumption | exact g1.2 _ _ _ rfl) | first | assumption | exact g1.2 _ _ _ rfl) | first | assumption | exact g1.2 _ _ _ rfl)) (k := ?_)
      refine r_if_ne (t := 88) hm rfl rfl (fun c81 => ?_) (fun c81 => ?_)
      · refine r_aload_n hm rfl (k := ?_)
        refine r_getI (hm := hm) (hf := rfl) (hd := rfl) (hs := (by first | assumption | exact (g1.1 _).trans rfl)) (hv := (by first | exact putI_eq | exact (putI_ne (by omega)).trans (by first | exact putI_eq | exact (putI_ne (by omega)).trans (by first | first | assumption | exact g1.2 _ _ _ rfl) | first | assumption | exact g1.2 _ _ _ rfl) | first | assumption | exact g1.2 _ _ _ rfl)) (k := ?_)
        refine r_iast (hm := hm) (hf := rfl) (h28 := (by omega)) (hs := (by first | assumption | exact (g1.1 _).trans rfl)) (hi := rfl) (hn := (by omega)) (k := ?_)
        refine r_return hm rfl rfl (Nat.le_of_ble_eq_true rfl) (Nat.le_of_ble_eq_true rfl) ?_
        have e0 : enN x H d q = q := enN_no (by omega)
        rw [e0] at hen
        subst hen
        refine ⟨Sm.put S1 (by unfold regW; omega), hq.same (Sm.put (S := fun a k => a = 1111) Sm.refl rfl) (fun a k z => by unfold regW; omega), ⟨fun q9 hq9 => ?_, fun q9 k hq9 hk => ?_⟩, ?_, rfl⟩
        · rw [putI_ne (by omega)]; exact hy.1 q9 hq9
        · rw [putI_ne (by omega), putI_ne (by omega)]; exact hy.2 q9 k hq9 hk
        · rw [putI_eq, if_neg (by omega)]
      · refine r_iconst hm rfl (k := ?_)
        refine r_goto (t := 92) hm rfl (k := ?_)
        refine r_iast (hm := hm) (hf := rfl) (h28 := (by omega)) (hs := (by first | assumption | exact (g1.1 _).trans rfl)) (hi := rfl) (hn := (by omega)) (k := ?_)
        refine r_return hm rfl rfl (Nat.le_of_ble_eq_true rfl) (Nat.le_of_ble_eq_true rfl) ?_
        have e0 : enN x H d q = q := enN_no (by omega)
        rw [e0] at hen
        subst hen
        refine ⟨Sm.put S1 (by unfold regW; omega), hq.same (Sm.put (S := fun a k => a = 1111) Sm.refl rfl) (fun a k z => by unfold regW; omega), ⟨fun q9 hq9 => ?_, fun q9 k hq9 hk => ?_⟩, ?_, rfl⟩
        · rw [putI_ne (by omega)]; exact hy.1 q9 hq9
        · rw [putI_ne (by omega), putI_ne (by omega)]; exact hy.2 q9 k hq9 hk
        · rw [putI_eq, if_pos (by omega)]
    · refine r_aload_n hm rfl (k := ?_)
      refine r_callv (j2 := 189) hm rfl rfl rfl rfl rfl rfl (by first | assumption | exact (g1.1 _).trans rfl) (Nat.le_of_ble_eq_true rfl) (Nat.le_of_ble_eq_true rfl) rfl ⟨Nat.le_of_ble_eq_true rfl, Nat.le_of_ble_eq_true rfl, Nat.le_of_ble_eq_true rfl, Nat.le_of_ble_eq_true rfl, Nat.le_of_ble_eq_true rfl⟩ rfl (m_newPage g1 hc1 hc3 hR1 hH hq ok.1 (TT_le hok (by omega)) (by omega) (by omega) (ok.2 (by omega))) (fun v9 hB p9 => ?_)
      obtain ⟨SB, hqB, e1⟩ := p9
      subst e1
      change RN 187 64 _ _ _ 0 0 _
      dsimp only [Option.toList, List.nil_append]
      refine r_goto (t := 49) hm rfl (k := ?_)
      obtain ⟨t1, t2, t3, t4, t5, t6⟩ := tn_ok hH ok.1 (ok.2 (by omega))
      refine ih (d - 1) (by omega) (tn x H q) hB (by have := t5 (by omega); omega) (by omega) (S1.trans (SB.mono (fun a k z => Or.inl z))) hqB t1 ⟨fun q9 hq9 => ?_, fun q9 k hq9 hk => ?_⟩ (by rw [← hen, enN_go (d := d) (q := q) (by omega) (by omega)])
      · rw [SB.2.2 _ _ (by unfold regW; omega)]; exact hy.1 q9 hq9
      · rw [SB.2.2 _ _ (by unfold regW; omega), SB.2.2 _ _ (by unfold regW; omega)]; exact hy.2 q9 k hq9 hk
  · have hTj : TT x i + cap x i ≤ 1200 := TT_le hok (i := i + 1) (by omega)
    have qI := m_setItem g1 hc1 hc3 hR1 hok hl (i := i) (by omega) hr (fun k hk => (S1.2.2 1103 _ (by unfold regW; omega)).trans (hLt i k (by omega) hk)) hH hq ok hTj
    refine r_aload_n hm rfl (k := ?_)
    refine r_iload_n hm rfl (k := ?_)
    refine r_iload_n hm rfl (k := ?_)
    refine r_callv (j2 := 188) hm rfl rfl rfl rfl rfl rfl (by first | assumption | exact (g1.1 _).trans rfl) (Nat.le_of_ble_eq_true rfl) (Nat.le_of_ble_eq_true rfl) rfl ⟨Nat.le_of_ble_eq_true rfl, Nat.le_of_ble_eq_true rfl, Nat.le_of_ble_eq_true rfl, Nat.le_of_ble_eq_true rfl, Nat.le_of_ble_eq_true rfl⟩ rfl (qI) (fun v9 hB p9 => ?_)
    obtain ⟨SB, hqB, elB, ppB, e1⟩ := p9
    subst e1
    change RN 187 43 _ _ _ 0 0 _
    dsimp only [Option.toList, List.nil_append]
    refine r_iinc hm rfl (hr := (by omega)) (k := ?_)
    refine r_goto (t := 24) hm rfl (k := ?_)
    exact ih (d - 1) (by omega) (i + 1) hB (by omega) (S1.trans (SB.mono (fun a k z => by unfold regW at z ⊢; omega))) hqB (LyM.step (y := hy) (f := (iS x H lt i (ly x H lt i).1).2) hok (by omega) SB (fun a k z => by unfold regW at z; omega) elB ppB)
