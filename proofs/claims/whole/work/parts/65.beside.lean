/-! beside: the reference compares -/
theorem ibo_sum {x y : Tx} : ∀ d i, sm (fun i => 1 - 2 * ibo x y i) i d = (d : Int) - 2 * sm (ibo x y) i d := by
  intro d
  induction d with
  | zero => intro i; rfl
  | succ d ih =>
    intro i
    rw [show sm (fun i => 1 - 2 * ibo x y i) i (d + 1) = (1 - 2 * ibo x y i) + sm (fun i => 1 - 2 * ibo x y i) (i + 1) d from rfl, ih (i + 1), show sm (ibo x y) i (d + 1) = ibo x y i + sm (ibo x y) (i + 1) d from rfl]
    omega
set_option maxHeartbeats 8000000 in
set_option maxRecDepth 8000 in
theorem m_beside {L : Nat} {h : Hp} {S : St} (I : InvM L h S) (ok : okS S) {vI w : Int} (hv0 : inI vI) (hw0 : inI w) : RN 222 0 [some (.inr (.inr (some 1085))), some (.inl vI), some (.inl w), none, none, none, none, none, none, none, none, none, none] [] h 0 0 (fun v h2 => InvM L h2 S ∧ FxM h h2 ∧ v = some (.inl (aBeside S vI w))) := by
  have hm : mrec 222 = some nM222 := rfl
  obtain ⟨g, hR, hV, hK, hG, hL, hB, hFl⟩ := id I
  have hok := ok.1
  obtain ⟨M0, M1, M2, M3, M4, Q0, Q1, Q2, S0, N0, N1⟩ := hR.use
  have n60 := hok.1
  have g1 := g
  have hR1 := hR
  have hH : 8 ≤ S.1.2.2.2 0 ∧ S.1.2.2.2 0 ≤ 60 := by have := hok.2.2.2.2; unfold okStl at this; omega
  refine r_iload_n hm rfl (k := ?_)
  refine r_calls (j2 := 219) hm rfl rfl rfl rfl rfl rfl (Nat.le_of_ble_eq_true rfl) (Nat.le_of_ble_eq_true rfl) rfl ⟨Nat.le_of_ble_eq_true rfl, Nat.le_of_ble_eq_true rfl, Nat.le_of_ble_eq_true rfl, Nat.le_of_ble_eq_true rfl, Nat.le_of_ble_eq_true rfl⟩ rfl (m_isSlot hv0) (fun v9 h9 p9 => ?_)
  obtain ⟨e1, e2⟩ := p9
  subst e2
  replace e1 := e1.symm
  subst e1
  obtain ⟨b9, eb9, hb9⟩ := ite01 (p := 0 ≤ vI ∧ vI ≤ 2)
  rw [eb9]
  change RN 222 4 _ _ _ 0 0 _
  dsimp only [Option.toList, List.cons_append, List.nil_append]
  refine r_if_eq (t := 16) hm rfl rfl (fun c4 => ?_) (fun c4 => ?_)
  · refine r_sipush hm rfl (k := ?_)
    refine r_ireturn hm rfl rfl (by rfl) (Nat.le_of_ble_eq_true rfl) (Nat.le_of_ble_eq_true rfl) ?_
    refine ⟨I, Sm.refl, ?_⟩
    unfold aBeside
    rw [if_pos (by omega)]
  · obtain ⟨q, rfl⟩ := Int.eq_ofNat_of_zero_le (show 0 ≤ vI by omega)
    have hk01 := ok.2.2.1 q (by omega)
    have oky := ok.2.1 q (by omega)
    have hHy : 8 ≤ (S.2.1 q).2.2.2 0 ∧ (S.2.1 q).2.2.2 0 ≤ 60 := by have := oky.2.2.2.2; unfold okStl at this; omega
    refine r_aload_n hm rfl (k := ?_)
    refine r_getR (hm := hm) (hf := rfl) (hd := rfl) (hs := (by first | assumption | exact (g1.1 _).trans rfl)) (hv := (by first | assumption | exact g1.2 _ _ _ rfl | exact hK _ (by omega) | exact hVq.1 | exact M0 _ (by omega) | exact Q0 _ _ (by omega) (by omega) | exact w4 | exact vf | exact w61 | exact w62 | exact yl.1 _ _ (by omega) (by omega))) (k := ?_)
    refine r_iload_n hm rfl (k := ?_)
    refine r_bald (hm := hm) (hf := rfl) (hs := (by first | assumption | exact (g1.1 _).trans rfl)) (hkd := by decide) (kk := q) (hi := by omega) (hn := (by omega)) (hv := (by first | assumption | exact g1.2 _ _ _ rfl | exact hK _ (by omega) | exact hVq.1 | exact M0 _ (by omega) | exact Q0 _ _ (by omega) (by omega) | exact w4 | exact vf | exact w61 | exact w62 | exact yl.1 _ _ (by omega) (by omega))) (k := ?_)
    refine r_if_ne (t := 20) hm rfl rfl (fun c13 => ?_) (fun c13 => ?_)
    · refine r_iload_n hm rfl (k := ?_)
      refine r_i2l hm rfl (k := ?_)
      refine r_lconst hm rfl (k := ?_)
      refine r_ldc2 hm rfl (hd := rfl) (k := ?_)
      refine r_calls (j2 := 162) hm rfl rfl rfl rfl rfl rfl (Nat.le_of_ble_eq_true rfl) (Nat.le_of_ble_eq_true rfl) rfl ⟨Nat.le_of_ble_eq_true rfl, Nat.le_of_ble_eq_true rfl, Nat.le_of_ble_eq_true rfl, Nat.le_of_ble_eq_true rfl, Nat.le_of_ble_eq_true rfl⟩ rfl (m_in (z := w) (a := 0) (b := 4) (zL_t hw0) rfl rfl) (fun v9 h9 p9 => ?_)
      obtain ⟨e1, e2⟩ := p9
      subst e2
      replace e1 := e1.symm
      subst e1
      obtain ⟨b8, eb8, hb8⟩ := ite01 (p := (0 : Int) ≤ w ∧ w ≤ (4 : Int))
      rw [eb8]
      change RN 222 29 _ _ _ 0 0 _
      dsimp only [Option.toList, List.cons_append, List.nil_append]
      refine r_if_ne (t := 36) hm rfl rfl (fun c29 => ?_) (fun c29 => ?_)
      · refine r_aload_n hm rfl (k := ?_)
        refine r_iload_n hm rfl (k := ?_)
        refine r_callv (j2 := 223) hm rfl rfl rfl rfl rfl rfl (by first | assumption | exact (g1.1 _).trans rfl) (Nat.le_of_ble_eq_true rfl) (Nat.le_of_ble_eq_true rfl) rfl ⟨Nat.le_of_ble_eq_true rfl, Nat.le_of_ble_eq_true rfl, Nat.le_of_ble_eq_true rfl, Nat.le_of_ble_eq_true rfl, Nat.le_of_ble_eq_true rfl⟩ rfl (m_keepWas (c := q) g (by omega) (hV q (by omega) (by omega)) oky rfl hHy) (fun v9 hA p9 => ?_)
        obtain ⟨SA, wA, e1⟩ := p9
        subst e1
        have IA : InvM L hA S := I.sm SA (fun a k z => by unfold regM at z; unfold idleM; omega)
        replace g1 := IA.1
        have qS := m_setNow IA ok
        change RN 222 41 _ _ _ 0 0 _
        dsimp only [Option.toList, List.nil_append]
        refine r_aload_n hm rfl (k := ?_)
        refine r_callv (j2 := 184) hm rfl rfl rfl rfl rfl rfl (by first | assumption | exact (g1.1 _).trans rfl) (Nat.le_of_ble_eq_true rfl) (Nat.le_of_ble_eq_true rfl) rfl ⟨Nat.le_of_ble_eq_true rfl, Nat.le_of_ble_eq_true rfl, Nat.le_of_ble_eq_true rfl, Nat.le_of_ble_eq_true rfl, Nat.le_of_ble_eq_true rfl⟩ rfl (qS) (fun v9 hB p9 => ?_)
        obtain ⟨SB, yS, e1⟩ := p9
        subst e1
        have wB := wA.same SB (fun a k z => by unfold regM at z; omega)
        have IB : InvM L hB S := IA.sm SB (fun a k z => by unfold regM at z; unfold idleM; omega)
        have FB : FxM h hB := (SA.mono (fun a k z => by unfold regM at z; omega)).trans (SB.mono (fun a k z => by unfold regM at z; omega))
        replace g1 := IB.1
        replace hR1 := IB.2.1
        have hVq := IB.2.2.1 q (by omega) (by omega)
        clear M0 M1 M2 M3 M4 Q0 Q1 Q2 S0 N0 N1
        obtain ⟨M0, M1, M2, M3, M4, Q0, Q1, Q2, S0, N0, N1⟩ := hR1.use
        obtain ⟨hc1, y35, y36, y37, y11, yP, yL, yl, yn, yN⟩ := id yS
        obtain ⟨v5, v6, v7, v8, vus, vfp, vlp, vwr⟩ := id yP
        have hlt := ltR_ok (H := S.1.2.2.2 0) hok (fin S.1 (S.1.2.2.2 0))
        obtain ⟨pk, pr, pw⟩ := psf_ok hok hlt hH
        have flr := fin_le (x := S.1) (H := S.1.2.2.2 0)
        have hY60 := oky.1
        change RN 222 45 _ _ _ 0 0 _
        dsimp only [Option.toList, List.nil_append]
        refine r_aload_n hm rfl (k := ?_)
        refine r_getR (hm := hm) (hf := rfl) (hd := rfl) (hs := (by first | assumption | exact (g1.1 _).trans rfl)) (hv := (by first | assumption | exact g1.2 _ _ _ rfl | exact hK _ (by omega) | exact hVq.1 | exact M0 _ (by omega) | exact Q0 _ _ (by omega) (by omega) | exact w4 | exact vf | exact w61 | exact w62 | exact yl.1 _ _ (by omega) (by omega))) (k := ?_)
        refine r_iload_n hm rfl (k := ?_)
        refine r_iald (hm := hm) (hf := rfl) (hs := (by first | assumption | exact (g1.1 _).trans rfl)) (kk := q) (hi := by omega) (hn := (by omega)) (hv := (by first | assumption | exact g1.2 _ _ _ rfl | exact hK _ (by omega) | exact hVq.1 | exact M0 _ (by omega) | exact Q0 _ _ (by omega) (by omega) | exact w4 | exact vf | exact w61 | exact w62 | exact yl.1 _ _ (by omega) (by omega))) (k := ?_)
        refine r_istore_n hm rfl (k := ?_)
        refine r_iconst hm rfl (k := ?_)
        refine r_istore hm rfl (k := ?_)
        refine r_iconst hm rfl (k := ?_)
        refine r_istore hm rfl (k := ?_)
        refine r_iconst hm rfl (k := ?_)
        refine r_istore hm rfl (k := ?_)
        refine r_iconst hm rfl (k := ?_)
        refine r_istore hm rfl (k := ?_)
        refine r_iconst hm rfl (k := ?_)
        refine r_istore hm rfl (k := ?_)
        suffices LP : ∀ (d i : Nat) (al nu ot le me : Int) (z9 z10 z11 z12 : Option Vl), i + d = S.1.1 → (-(i : Int) ≤ al ∧ al ≤ 60 + (i : Int)) → (0 ≤ nu ∧ nu ≤ i) → (0 ≤ ot ∧ ot ≤ i) → (0 ≤ le ∧ le ≤ 20 * i) → (0 ≤ me ∧ me ≤ 20 * i) → al + sm (fun i => 1 - 2 * ibo S.1 (S.2.1 q) i) i d = ((S.2.1 q).1 : Int) + sm (fun i => 1 - 2 * ibo S.1 (S.2.1 q) i) 0 S.1.1 → nu + sm (cga S.1 (S.2.1 q) (S.1.2.2.2 0) ((S.2.1 q).2.2.2 0) 1) i d = sm (cga S.1 (S.2.1 q) (S.1.2.2.2 0) ((S.2.1 q).2.2.2 0) 1) 0 S.1.1 → ot + sm (cga S.1 (S.2.1 q) (S.1.2.2.2 0) ((S.2.1 q).2.2.2 0) 2) i d = sm (cga S.1 (S.2.1 q) (S.1.2.2.2 0) ((S.2.1 q).2.2.2 0) 2) 0 S.1.1 → le + sm (cga S.1 (S.2.1 q) (S.1.2.2.2 0) ((S.2.1 q).2.2.2 0) 3) i d = sm (cga S.1 (S.2.1 q) (S.1.2.2.2 0) ((S.2.1 q).2.2.2 0) 3) 0 S.1.1 → me + sm (cga S.1 (S.2.1 q) (S.1.2.2.2 0) ((S.2.1 q).2.2.2 0) 4) i d = sm (cga S.1 (S.2.1 q) (S.1.2.2.2 0) ((S.2.1 q).2.2.2 0) 4) 0 S.1.1 → RN 222 67 [some (.inr (.inr (some 1085))), some (.inl (q : Int)), some (.inl w), some (.inl al), some (.inl nu), some (.inl ot), some (.inl le), some (.inl me), some (.inl (i : Int)), z9, z10, z11, z12] [] hB 0 0 (fun v h2 => InvM L h2 S ∧ FxM h h2 ∧ v = some (.inl (aBeside S (q : Int) w))) from LP S.1.1 0 _ 0 0 0 0 _ _ _ _ (by omega) (by omega) (by omega) (by omega) (by omega) (by omega) (by omega) (by omega) (by omega) (by omega) (by omega)
        refine fun d => Nat.strongRecOn d (fun d ih => ?_)
        intro i al nu ot le me z9 z10 z11 z12 hd b0 b1 b2 b3 b4 r0 r1 r2 r3 r4
        refine r_iload hm rfl (k := ?_)
        refine r_aload_n hm rfl (k := ?_)
        refine r_getR (hm := hm) (hf := rfl) (hd := rfl) (hs := (by first | assumption | exact (g1.1 _).trans rfl)) (hv := (by first | assumption | exact g1.2 _ _ _ rfl | exact hK _ (by omega) | exact hVq.1 | exact M0 _ (by omega) | exact Q0 _ _ (by omega) (by omega) | exact w4 | exact vf | exact w61 | exact w62 | exact yl.1 _ _ (by omega) (by omega))) (k := ?_)
        refine r_iconst hm rfl (k := ?_)
        refine r_iald (hm := hm) (hf := rfl) (hs := (by first | assumption | exact (g1.1 _).trans rfl)) (kk := 3) (hi := by omega) (hn := (by omega)) (hv := (by first | assumption | exact g1.2 _ _ _ rfl | exact hK _ (by omega) | exact hVq.1 | exact M0 _ (by omega) | exact Q0 _ _ (by omega) (by omega) | exact w4 | exact vf | exact w61 | exact w62 | exact yl.1 _ _ (by omega) (by omega))) (k := ?_)
        refine r_icmp_ge (t := 344) hm rfl rfl (fun c75 => ?_) (fun c75 => ?_)
        · refine r_iload_n hm rfl (k := ?_)
          refine r_if_ne (t := 352) hm rfl rfl (fun c345 => ?_) (fun c345 => ?_)
          · refine r_iload_n hm rfl (k := ?_)
            refine r_iconst hm rfl (k := ?_)
            refine r_icmp_ne (t := 362) hm rfl rfl (fun c354 => ?_) (fun c354 => ?_)
            · refine r_iload_n hm rfl (k := ?_)
              refine r_iconst hm rfl (k := ?_)
              refine r_icmp_ne (t := 372) hm rfl rfl (fun c364 => ?_) (fun c364 => ?_)
              · refine r_iload_n hm rfl (k := ?_)
                refine r_iconst hm rfl (k := ?_)
                refine r_icmp_ne (t := 382) hm rfl rfl (fun c374 => ?_) (fun c374 => ?_)
                · refine r_iload hm rfl (k := ?_)
                  refine r_ireturn hm rfl rfl (by rfl) (Nat.le_of_ble_eq_true rfl) (Nat.le_of_ble_eq_true rfl) ?_
                  have d0 : d = 0 := by omega
                  subst d0
                  have s0 : sm (fun i => 1 - 2 * ibo S.1 (S.2.1 q) i) i 0 = 0 := rfl
                  have s1 : sm (cga S.1 (S.2.1 q) (S.1.2.2.2 0) ((S.2.1 q).2.2.2 0) 1) i 0 = 0 := rfl
                  have s2 : sm (cga S.1 (S.2.1 q) (S.1.2.2.2 0) ((S.2.1 q).2.2.2 0) 2) i 0 = 0 := rfl
                  have s3 : sm (cga S.1 (S.2.1 q) (S.1.2.2.2 0) ((S.2.1 q).2.2.2 0) 3) i 0 = 0 := rfl
                  have s4 : sm (cga S.1 (S.2.1 q) (S.1.2.2.2 0) ((S.2.1 q).2.2.2 0) 4) i 0 = 0 := rfl
                  have s5 := ibo_sum (x := S.1) (y := (S.2.1 q)) S.1.1 0
                  have hw : w = 4 := by omega
                  subst hw
                  refine ⟨IB, FB, ?_⟩
                  unfold aBeside
                  simp only [Int.toNat_natCast]
                  rw [if_neg (by omega), if_neg (by omega)]
                  unfold bsd
                  rw [if_neg (by omega)]
                  congr 2
                  omega
                · refine r_iload hm rfl (k := ?_)
                  refine r_goto (t := 384) hm rfl (k := ?_)
                  refine r_ireturn hm rfl rfl (by rfl) (Nat.le_of_ble_eq_true rfl) (Nat.le_of_ble_eq_true rfl) ?_
                  have d0 : d = 0 := by omega
                  subst d0
                  have s0 : sm (fun i => 1 - 2 * ibo S.1 (S.2.1 q) i) i 0 = 0 := rfl
                  have s1 : sm (cga S.1 (S.2.1 q) (S.1.2.2.2 0) ((S.2.1 q).2.2.2 0) 1) i 0 = 0 := rfl
                  have s2 : sm (cga S.1 (S.2.1 q) (S.1.2.2.2 0) ((S.2.1 q).2.2.2 0) 2) i 0 = 0 := rfl
                  have s3 : sm (cga S.1 (S.2.1 q) (S.1.2.2.2 0) ((S.2.1 q).2.2.2 0) 3) i 0 = 0 := rfl
                  have s4 : sm (cga S.1 (S.2.1 q) (S.1.2.2.2 0) ((S.2.1 q).2.2.2 0) 4) i 0 = 0 := rfl
                  have s5 := ibo_sum (x := S.1) (y := (S.2.1 q)) S.1.1 0
                  have hw : w = 3 := by omega
                  subst hw
                  refine ⟨IB, FB, ?_⟩
                  unfold aBeside
                  simp only [Int.toNat_natCast]
                  rw [if_neg (by omega), if_neg (by omega)]
                  unfold bsd
                  rw [if_neg (by omega)]
                  congr 2
                  omega
              · refine r_iload hm rfl (k := ?_)
                refine r_goto (t := 384) hm rfl (k := ?_)
                refine r_ireturn hm rfl rfl (by rfl) (Nat.le_of_ble_eq_true rfl) (Nat.le_of_ble_eq_true rfl) ?_
                have d0 : d = 0 := by omega
                subst d0
                have s0 : sm (fun i => 1 - 2 * ibo S.1 (S.2.1 q) i) i 0 = 0 := rfl
                have s1 : sm (cga S.1 (S.2.1 q) (S.1.2.2.2 0) ((S.2.1 q).2.2.2 0) 1) i 0 = 0 := rfl
                have s2 : sm (cga S.1 (S.2.1 q) (S.1.2.2.2 0) ((S.2.1 q).2.2.2 0) 2) i 0 = 0 := rfl
                have s3 : sm (cga S.1 (S.2.1 q) (S.1.2.2.2 0) ((S.2.1 q).2.2.2 0) 3) i 0 = 0 := rfl
                have s4 : sm (cga S.1 (S.2.1 q) (S.1.2.2.2 0) ((S.2.1 q).2.2.2 0) 4) i 0 = 0 := rfl
                have s5 := ibo_sum (x := S.1) (y := (S.2.1 q)) S.1.1 0
                have hw : w = 2 := by omega
                subst hw
                refine ⟨IB, FB, ?_⟩
                unfold aBeside
                simp only [Int.toNat_natCast]
                rw [if_neg (by omega), if_neg (by omega)]
                unfold bsd
                rw [if_neg (by omega)]
                congr 2
                omega
            · refine r_iload hm rfl (k := ?_)
              refine r_goto (t := 384) hm rfl (k := ?_)
              refine r_ireturn hm rfl rfl (by rfl) (Nat.le_of_ble_eq_true rfl) (Nat.le_of_ble_eq_true rfl) ?_
              have d0 : d = 0 := by omega
              subst d0
              have s0 : sm (fun i => 1 - 2 * ibo S.1 (S.2.1 q) i) i 0 = 0 := rfl
              have s1 : sm (cga S.1 (S.2.1 q) (S.1.2.2.2 0) ((S.2.1 q).2.2.2 0) 1) i 0 = 0 := rfl
              have s2 : sm (cga S.1 (S.2.1 q) (S.1.2.2.2 0) ((S.2.1 q).2.2.2 0) 2) i 0 = 0 := rfl
              have s3 : sm (cga S.1 (S.2.1 q) (S.1.2.2.2 0) ((S.2.1 q).2.2.2 0) 3) i 0 = 0 := rfl
              have s4 : sm (cga S.1 (S.2.1 q) (S.1.2.2.2 0) ((S.2.1 q).2.2.2 0) 4) i 0 = 0 := rfl
              have s5 := ibo_sum (x := S.1) (y := (S.2.1 q)) S.1.1 0
              have hw : w = 1 := by omega
              subst hw
              refine ⟨IB, FB, ?_⟩
              unfold aBeside
              simp only [Int.toNat_natCast]
              rw [if_neg (by omega), if_neg (by omega)]
              unfold bsd
              rw [if_neg (by omega)]
              congr 2
              omega
          · refine r_iload_n hm rfl (k := ?_)
            refine r_goto (t := 384) hm rfl (k := ?_)
            refine r_ireturn hm rfl rfl (by rfl) (Nat.le_of_ble_eq_true rfl) (Nat.le_of_ble_eq_true rfl) ?_
            have d0 : d = 0 := by omega
            subst d0
            have s0 : sm (fun i => 1 - 2 * ibo S.1 (S.2.1 q) i) i 0 = 0 := rfl
            have s1 : sm (cga S.1 (S.2.1 q) (S.1.2.2.2 0) ((S.2.1 q).2.2.2 0) 1) i 0 = 0 := rfl
            have s2 : sm (cga S.1 (S.2.1 q) (S.1.2.2.2 0) ((S.2.1 q).2.2.2 0) 2) i 0 = 0 := rfl
            have s3 : sm (cga S.1 (S.2.1 q) (S.1.2.2.2 0) ((S.2.1 q).2.2.2 0) 3) i 0 = 0 := rfl
            have s4 : sm (cga S.1 (S.2.1 q) (S.1.2.2.2 0) ((S.2.1 q).2.2.2 0) 4) i 0 = 0 := rfl
            have s5 := ibo_sum (x := S.1) (y := (S.2.1 q)) S.1.1 0
            have hw : w = 0 := by omega
            subst hw
            refine ⟨IB, FB, ?_⟩
            unfold aBeside
            simp only [Int.toNat_natCast]
            rw [if_neg (by omega), if_neg (by omega)]
            unfold bsd
            rw [if_pos rfl]
            congr 2
            omega
        · have hi : i < S.1.1 := by omega
          have hit := hok.2.1 i hi
          unfold okIt at hit
          obtain ⟨ep, ep2⟩ := pcs_eq hok hi
          have hpr := @pnm_rng (S.2.1 q) (S.1.2.1 0 i)
          have ePn := wB.pn (n := S.1.2.1 0 i) (by omega)
          have g0 := sm_go (f := (fun i => 1 - 2 * ibo S.1 (S.2.1 q) i)) (i := i) (d := d) (by omega)
          have g1_ := sm_go (f := (cga S.1 (S.2.1 q) (S.1.2.2.2 0) ((S.2.1 q).2.2.2 0) 1)) (i := i) (d := d) (by omega)
          have g2_ := sm_go (f := (cga S.1 (S.2.1 q) (S.1.2.2.2 0) ((S.2.1 q).2.2.2 0) 2)) (i := i) (d := d) (by omega)
          have g3_ := sm_go (f := (cga S.1 (S.2.1 q) (S.1.2.2.2 0) ((S.2.1 q).2.2.2 0) 3)) (i := i) (d := d) (by omega)
          have g4_ := sm_go (f := (cga S.1 (S.2.1 q) (S.1.2.2.2 0) ((S.2.1 q).2.2.2 0) 4)) (i := i) (d := d) (by omega)
          try dsimp only at g0
          refine r_aload_n hm rfl (k := ?_)
          refine r_getR (hm := hm) (hf := rfl) (hd := rfl) (hs := (by first | assumption | exact (g1.1 _).trans rfl)) (hv := (by first | assumption | exact g1.2 _ _ _ rfl | exact hK _ (by omega) | exact hVq.1 | exact M0 _ (by omega) | exact Q0 _ _ (by omega) (by omega) | exact w4 | exact vf | exact w61 | exact w62 | exact yl.1 _ _ (by omega) (by omega))) (k := ?_)
          refine r_sipush hm rfl (k := ?_)
          refine r_iload hm rfl (k := ?_)
          refine r_iadd hm rfl (hr := (by omega)) (k := ?_)
          refine r_iald (hm := hm) (hf := rfl) (hs := (by first | assumption | exact (g1.1 _).trans rfl)) (kk := 60 * 3 + i) (hi := by omega) (hn := (by omega)) (hv := (by first | assumption | exact g1.2 _ _ _ rfl | exact hK _ (by omega) | exact hVq.1 | exact M0 _ (by omega) | exact Q0 _ _ (by omega) (by omega) | exact w4 | exact vf | exact w61 | exact w62 | exact yl.1 _ _ (by omega) (by omega))) (k := ?_)
          refine r_istore hm rfl (k := ?_)
          refine r_aload_n hm rfl (k := ?_)
          refine r_getR (hm := hm) (hf := rfl) (hd := rfl) (hs := (by first | assumption | exact (g1.1 _).trans rfl)) (hv := (by first | assumption | exact g1.2 _ _ _ rfl | exact hK _ (by omega) | exact hVq.1 | exact M0 _ (by omega) | exact Q0 _ _ (by omega) (by omega) | exact w4 | exact vf | exact w61 | exact w62 | exact yl.1 _ _ (by omega) (by omega))) (k := ?_)
          refine r_iload hm rfl (k := ?_)
          refine r_iald (hm := hm) (hf := rfl) (hs := (by first | assumption | exact (g1.1 _).trans rfl)) (kk := (S.1.2.1 0 i).toNat) (hi := by omega) (hn := (by omega)) (hv := (by first | assumption | exact g1.2 _ _ _ rfl | exact hK _ (by omega) | exact hVq.1 | exact M0 _ (by omega) | exact Q0 _ _ (by omega) (by omega) | exact w4 | exact vf | exact w61 | exact w62 | exact yl.1 _ _ (by omega) (by omega))) (k := ?_)
          refine r_if_lt (t := 105) hm rfl rfl (fun c98 => ?_) (fun c98 => ?_)
          · have e0 : ibo S.1 (S.2.1 q) i = 0 := if_pos (by omega)
            have e1 : cga S.1 (S.2.1 q) (S.1.2.2.2 0) ((S.2.1 q).2.2.2 0) 1 i = 0 := if_pos (by omega)
            have e2 : cga S.1 (S.2.1 q) (S.1.2.2.2 0) ((S.2.1 q).2.2.2 0) 2 i = 0 := if_pos (by omega)
            have e3 : cga S.1 (S.2.1 q) (S.1.2.2.2 0) ((S.2.1 q).2.2.2 0) 3 i = 0 := if_pos (by omega)
            have e4 : cga S.1 (S.2.1 q) (S.1.2.2.2 0) ((S.2.1 q).2.2.2 0) 4 i = 0 := if_pos (by omega)
            refine r_iconst hm rfl (k := ?_)
            refine r_istore hm rfl (k := ?_)
            refine r_iload_n hm rfl (k := ?_)
            refine r_iload hm rfl (k := ?_)
            refine r_if_eq (t := 118) hm rfl rfl (fun c111 => ?_) (fun c111 => ?_)
            · refine r_iconst hm rfl (k := ?_)
              refine r_iadd hm rfl (hr := (by omega)) (k := ?_)
              refine r_istore_n hm rfl (k := ?_)
              refine r_iload hm rfl (k := ?_)
              refine r_iload hm rfl (k := ?_)
              refine r_if_eq (t := 143) hm rfl rfl (fun c125 => ?_) (fun c125 => ?_)
              · refine r_iconst hm rfl (k := ?_)
                refine r_iadd hm rfl (hr := (by omega)) (k := ?_)
                refine r_istore hm rfl (k := ?_)
                refine r_iload hm rfl (k := ?_)
                refine r_iload hm rfl (k := ?_)
                refine r_if_eq (t := 175) hm rfl rfl (fun c151 => ?_) (fun c151 => ?_)
                · refine r_iconst hm rfl (k := ?_)
                  refine r_iadd hm rfl (hr := (by omega)) (k := ?_)
                  refine r_istore hm rfl (k := ?_)
                  refine r_iconst hm rfl (k := ?_)
                  refine r_istore hm rfl (k := ?_)
                  suffices LP : RN 222 182 [some (.inr (.inr (some 1085))), some (.inl (q : Int)), some (.inl w), some (.inl (al + 1)), some (.inl (nu + 0)), some (.inl (ot + 0)), some (.inl le), some (.inl me), some (.inl (i : Int)), some (.inl (S.1.2.1 0 i)), some (.inl 0), some (.inl 0), z12] [] hB 0 0 (fun v h2 => InvM L h2 S ∧ FxM h h2 ∧ v = some (.inl (aBeside S (q : Int) w))) from LP
                  refine r_iload hm rfl (k := ?_)
                  refine r_aload_n hm rfl (k := ?_)
                  refine r_iload hm rfl (k := ?_)
                  refine r_callv (j2 := 181) hm rfl rfl rfl rfl rfl rfl (by first | assumption | exact (g1.1 _).trans rfl) (Nat.le_of_ble_eq_true rfl) (Nat.le_of_ble_eq_true rfl) rfl ⟨Nat.le_of_ble_eq_true rfl, Nat.le_of_ble_eq_true rfl, Nat.le_of_ble_eq_true rfl, Nat.le_of_ble_eq_true rfl, Nat.le_of_ble_eq_true rfl⟩ rfl (m_piecesOf g1 hc1 (by omega) hR1 (i := i) (by omega)) (fun v9 h9 p9 => ?_)
                  obtain ⟨e1, e2⟩ := p9
                  subst e2
                  replace e1 := e1.symm
                  subst e1
                  change RN 222 190 _ _ _ 0 0 _
                  dsimp only [Option.toList, List.cons_append, List.nil_append]
                  refine r_icmp_ge (t := 338) hm rfl rfl (fun c190 => ?_) (fun c190 => ?_)
                  · refine r_iinc hm rfl (hr := (by omega)) (k := ?_)
                    refine r_goto (t := 67) hm rfl (k := ?_)
                    exact ih (d - 1) (by omega) (i + 1) _ _ _ _ _ _ _ _ _ (by omega) (by omega) (by omega) (by omega) (by omega) (by omega) (by omega) (by omega) (by omega) (by omega) (by omega)
                  · refine r_iload hm rfl (k := ?_)
                    refine r_if_eq (t := 338) hm rfl rfl (fun c195 => ?_) (fun c195 => ?_)
                    · refine r_iinc hm rfl (hr := (by omega)) (k := ?_)
                      refine r_goto (t := 67) hm rfl (k := ?_)
                      exact ih (d - 1) (by omega) (i + 1) _ _ _ _ _ _ _ _ _ (by omega) (by omega) (by omega) (by omega) (by omega) (by omega) (by omega) (by omega) (by omega) (by omega) (by omega)
                    · exfalso; omega
                · exfalso; omega
              · exfalso; omega
            · exfalso; omega
          · obtain ⟨p, hp⟩ := Int.eq_ofNat_of_zero_le (show 0 ≤ pnm (S.2.1 q) (S.1.2.1 0 i) by omega)
            have hp2 : p < (S.2.1 q).1 := by omega
            have hpn : (S.2.1 q).2.1 0 p = S.1.2.1 0 i := by have := pnm_val (y := (S.2.1 q)) (n := S.1.2.1 0 i) (by omega); rw [hp, Int.toNat_natCast] at this; exact this
            have wd := wB.1 p hp2
            obtain ⟨w1, w2, w3, w4, w5, w6⟩ := id wd
            rw [hpn] at w1 w2 w3 w4 w5 w6
            have qO := m_hasOther g1 hok oky hi hp2 yN wd
            rw [hpn, show (((S.1.2.1 0 i).toNat : Nat) : Int) = S.1.2.1 0 i by omega] at qO
            have e0 : ibo S.1 (S.2.1 q) i = 1 := if_neg (by omega)
            have e1 : cga S.1 (S.2.1 q) (S.1.2.2.2 0) ((S.2.1 q).2.2.2 0) 1 i = cgi S.1 (S.2.1 q) (S.1.2.2.2 0) ((S.2.1 q).2.2.2 0) 1 i p := by unfold cga; rw [if_neg (by omega), hp, Int.toNat_natCast]
            have e2 : cga S.1 (S.2.1 q) (S.1.2.2.2 0) ((S.2.1 q).2.2.2 0) 2 i = cgi S.1 (S.2.1 q) (S.1.2.2.2 0) ((S.2.1 q).2.2.2 0) 2 i p := by unfold cga; rw [if_neg (by omega), hp, Int.toNat_natCast]
            have e3 : cga S.1 (S.2.1 q) (S.1.2.2.2 0) ((S.2.1 q).2.2.2 0) 3 i = cgc S.1 (S.2.1 q) (S.1.2.2.2 0) ((S.2.1 q).2.2.2 0) 3 i p := by unfold cga; rw [if_neg (by omega), hp, Int.toNat_natCast]; rfl
            have e4 : cga S.1 (S.2.1 q) (S.1.2.2.2 0) ((S.2.1 q).2.2.2 0) 4 i = cgc S.1 (S.2.1 q) (S.1.2.2.2 0) ((S.2.1 q).2.2.2 0) 4 i p := by unfold cga; rw [if_neg (by omega), hp, Int.toNat_natCast]; rfl
            have f1 : cgi S.1 (S.2.1 q) (S.1.2.2.2 0) ((S.2.1 q).2.2.2 0) 1 i p = (if lkn S.1 (S.2.1 q) i p = true then 0 else 1) := rfl
            have f2 : cgi S.1 (S.2.1 q) (S.1.2.2.2 0) ((S.2.1 q).2.2.2 0) 2 i p = (if fpF S.1 (S.1.2.2.2 0) i = fpF (S.2.1 q) ((S.2.1 q).2.2.2 0) p then 0 else 1) := rfl
            have c3r := cgc_rng (y := (S.2.1 q)) (H1 := (S.1.2.2.2 0)) (H2 := ((S.2.1 q).2.2.2 0)) (w := 3) (j := p) hok hi
            have c4r := cgc_rng (y := (S.2.1 q)) (H1 := (S.1.2.2.2 0)) (H2 := ((S.2.1 q).2.2.2 0)) (w := 4) (j := p) hok hi
            refine r_iconst hm rfl (k := ?_)
            refine r_goto (t := 106) hm rfl (k := ?_)
            refine r_istore hm rfl (k := ?_)
            refine r_iload_n hm rfl (k := ?_)
            refine r_iload hm rfl (k := ?_)
            refine r_if_eq (t := 118) hm rfl rfl (fun c111 => ?_) (fun c111 => ?_)
            · exfalso; omega
            · refine r_iconst hm rfl (k := ?_)
              refine r_goto (t := 119) hm rfl (k := ?_)
              refine r_iadd hm rfl (hr := (by omega)) (k := ?_)
              refine r_istore_n hm rfl (k := ?_)
              refine r_iload hm rfl (k := ?_)
              refine r_iload hm rfl (k := ?_)
              refine r_if_eq (t := 143) hm rfl rfl (fun c125 => ?_) (fun c125 => ?_)
              · exfalso; omega
              · refine r_aload_n hm rfl (k := ?_)
                refine r_iload hm rfl (k := ?_)
                refine r_iload hm rfl (k := ?_)
                refine r_callv (j2 := 225) hm rfl rfl rfl rfl rfl rfl (by first | assumption | exact (g1.1 _).trans rfl) (Nat.le_of_ble_eq_true rfl) (Nat.le_of_ble_eq_true rfl) rfl ⟨Nat.le_of_ble_eq_true rfl, Nat.le_of_ble_eq_true rfl, Nat.le_of_ble_eq_true rfl, Nat.le_of_ble_eq_true rfl, Nat.le_of_ble_eq_true rfl⟩ rfl (qO) (fun v9 h9 p9 => ?_)
                obtain ⟨e1, e2⟩ := p9
                subst e2
                replace e1 := e1.symm
                subst e1
                obtain ⟨bo, ebo, hbo⟩ := ite01 (p := ¬ lkn S.1 (S.2.1 q) i p = true)
                rw [show (if lkn S.1 (S.2.1 q) i p = true then (0 : Int) else 1) = bo by rw [← ebo]; by_cases e : lkn S.1 (S.2.1 q) i p = true <;> simp [e]]
                change RN 222 136 _ _ _ 0 0 _
                dsimp only [Option.toList, List.cons_append, List.nil_append]
                refine r_if_eq (t := 143) hm rfl rfl (fun c136 => ?_) (fun c136 => ?_)
                · have hl9 : lkn S.1 (S.2.1 q) i p = true := by rcases hbo with z | z; omega; exact Decidable.not_not.mp z.1
                  refine r_iconst hm rfl (k := ?_)
                  refine r_iadd hm rfl (hr := (by omega)) (k := ?_)
                  refine r_istore hm rfl (k := ?_)
                  refine r_iload hm rfl (k := ?_)
                  refine r_iload hm rfl (k := ?_)
                  refine r_if_eq (t := 175) hm rfl rfl (fun c151 => ?_) (fun c151 => ?_)
                  · exfalso; omega
                  · have vf := vfp i (by have := pr i hi; omega)
                    refine r_aload_n hm rfl (k := ?_)
                    refine r_getR (hm := hm) (hf := rfl) (hd := rfl) (hs := (by first | assumption | exact (g1.1 _).trans rfl)) (hv := (by first | assumption | exact g1.2 _ _ _ rfl | exact hK _ (by omega) | exact hVq.1 | exact M0 _ (by omega) | exact Q0 _ _ (by omega) (by omega) | exact w4 | exact vf | exact w61 | exact w62 | exact yl.1 _ _ (by omega) (by omega))) (k := ?_)
                    refine r_iload hm rfl (k := ?_)
                    refine r_iald (hm := hm) (hf := rfl) (hs := (by first | assumption | exact (g1.1 _).trans rfl)) (kk := (S.1.2.1 0 i).toNat) (hi := by omega) (hn := (by omega)) (hv := (by first | assumption | exact g1.2 _ _ _ rfl | exact hK _ (by omega) | exact hVq.1 | exact M0 _ (by omega) | exact Q0 _ _ (by omega) (by omega) | exact w4 | exact vf | exact w61 | exact w62 | exact yl.1 _ _ (by omega) (by omega))) (k := ?_)
                    refine r_aload_n hm rfl (k := ?_)
                    refine r_getR (hm := hm) (hf := rfl) (hd := rfl) (hs := (by first | assumption | exact (g1.1 _).trans rfl)) (hv := (by first | assumption | exact g1.2 _ _ _ rfl | exact hK _ (by omega) | exact hVq.1 | exact M0 _ (by omega) | exact Q0 _ _ (by omega) (by omega) | exact w4 | exact vf | exact w61 | exact w62 | exact yl.1 _ _ (by omega) (by omega))) (k := ?_)
                    refine r_iload hm rfl (k := ?_)
                    refine r_iald (hm := hm) (hf := rfl) (hs := (by first | assumption | exact (g1.1 _).trans rfl)) (kk := i) (hi := by omega) (hn := (by omega)) (hv := (by first | assumption | exact g1.2 _ _ _ rfl | exact hK _ (by omega) | exact hVq.1 | exact M0 _ (by omega) | exact Q0 _ _ (by omega) (by omega) | exact w4 | exact vf | exact w61 | exact w62 | exact yl.1 _ _ (by omega) (by omega))) (k := ?_)
                    refine r_icmp_eq (t := 175) hm rfl rfl (fun c168 => ?_) (fun c168 => ?_)
                    · refine r_iconst hm rfl (k := ?_)
                      refine r_iadd hm rfl (hr := (by omega)) (k := ?_)
                      refine r_istore hm rfl (k := ?_)
                      refine r_iconst hm rfl (k := ?_)
                      refine r_istore hm rfl (k := ?_)
                      suffices LP : ∀ (d2 k : Nat) (l2 m2 : Int) (z12 : Option Vl), k + d2 = pcs S.1 i → (0 ≤ l2 ∧ l2 ≤ 20 * i + k) → (0 ≤ m2 ∧ m2 ≤ 20 * i + k) → l2 + sm (fun k => if cgk S.1 (S.2.1 q) (S.1.2.2.2 0) ((S.2.1 q).2.2.2 0) 3 i p k = true then (1 : Int) else 0) k d2 = le + cgc S.1 (S.2.1 q) (S.1.2.2.2 0) ((S.2.1 q).2.2.2 0) 3 i p → m2 + sm (fun k => if cgk S.1 (S.2.1 q) (S.1.2.2.2 0) ((S.2.1 q).2.2.2 0) 4 i p k = true then (1 : Int) else 0) k d2 = me + cgc S.1 (S.2.1 q) (S.1.2.2.2 0) ((S.2.1 q).2.2.2 0) 4 i p → RN 222 182 [some (.inr (.inr (some 1085))), some (.inl (q : Int)), some (.inl w), some (.inl (al + -1)), some (.inl (nu + 0)), some (.inl (ot + 0)), some (.inl l2), some (.inl m2), some (.inl (i : Int)), some (.inl (S.1.2.1 0 i)), some (.inl 1), some (.inl (k : Int)), z12] [] hB 0 0 (fun v h2 => InvM L h2 S ∧ FxM h h2 ∧ v = some (.inl (aBeside S (q : Int) w))) from LP (pcs S.1 i) 0 le me _ (by omega) (by omega) (by omega) (by unfold cgc; omega) (by unfold cgc; omega)
                      refine fun d2 => Nat.strongRecOn d2 (fun d2 ih2 => ?_)
                      intro k l2 m2 z12 hd2 bl bm rl rm
                      refine r_iload hm rfl (k := ?_)
                      refine r_aload_n hm rfl (k := ?_)
                      refine r_iload hm rfl (k := ?_)
                      refine r_callv (j2 := 181) hm rfl rfl rfl rfl rfl rfl (by first | assumption | exact (g1.1 _).trans rfl) (Nat.le_of_ble_eq_true rfl) (Nat.le_of_ble_eq_true rfl) rfl ⟨Nat.le_of_ble_eq_true rfl, Nat.le_of_ble_eq_true rfl, Nat.le_of_ble_eq_true rfl, Nat.le_of_ble_eq_true rfl, Nat.le_of_ble_eq_true rfl⟩ rfl (m_piecesOf g1 hc1 (by omega) hR1 (i := i) (by omega)) (fun v9 h9 p9 => ?_)
                      obtain ⟨e1, e2⟩ := p9
                      subst e2
                      replace e1 := e1.symm
                      subst e1
                      change RN 222 190 _ _ _ 0 0 _
                      dsimp only [Option.toList, List.cons_append, List.nil_append]
                      refine r_icmp_ge (t := 338) hm rfl rfl (fun c190 => ?_) (fun c190 => ?_)
                      · refine r_iinc hm rfl (hr := (by omega)) (k := ?_)
                        refine r_goto (t := 67) hm rfl (k := ?_)
                        have d0 : d2 = 0 := by omega
                        subst d0
                        have s3 : sm (fun k => if cgk S.1 (S.2.1 q) (S.1.2.2.2 0) ((S.2.1 q).2.2.2 0) 3 i p k = true then (1 : Int) else 0) k 0 = 0 := rfl
                        have s4 : sm (fun k => if cgk S.1 (S.2.1 q) (S.1.2.2.2 0) ((S.2.1 q).2.2.2 0) 4 i p k = true then (1 : Int) else 0) k 0 = 0 := rfl
                        rw [if_pos hl9] at f1
                        rw [if_pos (by unfold fpF ltF at *; omega)] at f2
                        exact ih (d - 1) (by omega) (i + 1) _ _ _ _ _ _ _ _ _ (by omega) (by omega) (by omega) (by omega) (by omega) (by omega) (by omega) (by omega) (by omega) (by omega) (by omega)
                      · refine r_iload hm rfl (k := ?_)
                        refine r_if_eq (t := 338) hm rfl rfl (fun c195 => ?_) (fun c195 => ?_)
                        · exfalso; omega
                        · have hk1 : k < pcs S.1 i := by omega
                          have hz := hok.2.2.1 i k hi (by omega)
                          unfold okPc at hz
                          have w6k := w6 k (by omega)
                          obtain ⟨eq1, eq2⟩ := pcs_eq oky hp2
                          have nmr := @nmn_rng (S.2.1 q) oky p k
                          have gl := sm_go (f := (fun k => if cgk S.1 (S.2.1 q) (S.1.2.2.2 0) ((S.2.1 q).2.2.2 0) 3 i p k = true then (1 : Int) else 0)) (i := k) (d := d2) (by omega)
                          have gm := sm_go (f := (fun k => if cgk S.1 (S.2.1 q) (S.1.2.2.2 0) ((S.2.1 q).2.2.2 0) 4 i p k = true then (1 : Int) else 0)) (i := k) (d := d2) (by omega)
                          try dsimp only at gl gm
                          obtain ⟨cy, ecy⟩ : ∃ cy : Prop, cy = (k < pcs (S.2.1 q) p ∧ (S.2.1 q).2.2.1 0 p k = 1) := ⟨_, rfl⟩
                          have w61 := w6k.1
                          have w62 := w6k.2
                          refine r_aload_n hm rfl (k := ?_)
                          refine r_getR (hm := hm) (hf := rfl) (hd := rfl) (hs := (by first | assumption | exact (g1.1 _).trans rfl)) (hv := (by first | assumption | exact g1.2 _ _ _ rfl | exact hK _ (by omega) | exact hVq.1 | exact M0 _ (by omega) | exact Q0 _ _ (by omega) (by omega) | exact w4 | exact vf | exact w61 | exact w62 | exact yl.1 _ _ (by omega) (by omega))) (k := ?_)
                          refine r_aload_n hm rfl (k := ?_)
                          refine r_iload hm rfl (k := ?_)
                          refine r_iload hm rfl (k := ?_)
                          refine r_callv (j2 := 186) hm rfl rfl rfl rfl rfl rfl (by first | assumption | exact (g1.1 _).trans rfl) (Nat.le_of_ble_eq_true rfl) (Nat.le_of_ble_eq_true rfl) rfl ⟨Nat.le_of_ble_eq_true rfl, Nat.le_of_ble_eq_true rfl, Nat.le_of_ble_eq_true rfl, Nat.le_of_ble_eq_true rfl, Nat.le_of_ble_eq_true rfl⟩ rfl (m_place g1 hc1 (by omega) hR1 (i := i) (k := k) (by omega) (by omega)) (fun v9 h9 p9 => ?_)
                          obtain ⟨e1, e2⟩ := p9
                          subst e2
                          replace e1 := e1.symm
                          subst e1
                          change RN 222 210 _ _ _ 0 0 _
                          dsimp only [Option.toList, List.cons_append, List.nil_append]
                          refine r_iald (hm := hm) (hf := rfl) (hs := (by first | assumption | exact (g1.1 _).trans rfl)) (hi := rfl) (hn := (by omega)) (hv := (by first | assumption | exact g1.2 _ _ _ rfl | exact hK _ (by omega) | exact hVq.1 | exact M0 _ (by omega) | exact Q0 _ _ (by omega) (by omega) | exact w4 | exact vf | exact w61 | exact w62 | exact yl.1 _ _ (by omega) (by omega))) (k := ?_)
                          refine r_iconst hm rfl (k := ?_)
                          refine r_icmp_ne (t := 237) hm rfl rfl (fun c212 => ?_) (fun c212 => ?_)
                          · refine r_iconst hm rfl (k := ?_)
                            refine r_istore hm rfl (k := ?_)
                            refine r_iload hm rfl (k := ?_)
                            refine r_iload hm rfl (k := ?_)
                            refine r_if_eq (t := 289) hm rfl rfl (fun c244 => ?_) (fun c244 => ?_)
                            · refine r_iconst hm rfl (k := ?_)
                              refine r_iadd hm rfl (hr := (by omega)) (k := ?_)
                              refine r_istore hm rfl (k := ?_)
                              refine r_iload hm rfl (k := ?_)
                              refine r_iload hm rfl (k := ?_)
                              refine r_if_eq (t := 328) hm rfl rfl (fun c297 => ?_) (fun c297 => ?_)
                              · refine r_iconst hm rfl (k := ?_)
                                refine r_iadd hm rfl (hr := (by omega)) (k := ?_)
                                refine r_istore hm rfl (k := ?_)
                                refine r_iinc hm rfl (hr := (by omega)) (k := ?_)
                                refine r_goto (t := 182) hm rfl (k := ?_)
                                rw [if_neg (fun z => by unfold cgk at z; rw [decide_eq_true_eq] at z; omega)] at gl
                                rw [if_neg (fun z => by unfold cgk at z; rw [decide_eq_true_eq] at z; omega)] at gm
                                exact ih2 (d2 - 1) (by omega) (k + 1) _ _ _ (by omega) (by omega) (by omega) (by omega) (by omega)
                              · exfalso; omega
                            · exfalso; omega
                          · refine r_aload_n hm rfl (k := ?_)
                            refine r_getR (hm := hm) (hf := rfl) (hd := rfl) (hs := (by first | assumption | exact (g1.1 _).trans rfl)) (hv := (by first | assumption | exact g1.2 _ _ _ rfl | exact hK _ (by omega) | exact hVq.1 | exact M0 _ (by omega) | exact Q0 _ _ (by omega) (by omega) | exact w4 | exact vf | exact w61 | exact w62 | exact yl.1 _ _ (by omega) (by omega))) (k := ?_)
                            refine r_bipush hm rfl (k := ?_)
                            refine r_iload hm rfl (k := ?_)
                            refine r_imul hm rfl (hr := (by omega)) (k := ?_)
                            refine r_iload hm rfl (k := ?_)
                            refine r_iadd hm rfl (hr := (by omega)) (k := ?_)
                            refine r_iald (hm := hm) (hf := rfl) (hs := (by first | assumption | exact (g1.1 _).trans rfl)) (kk := 20 * (S.1.2.1 0 i).toNat + k) (hi := by omega) (hn := (by omega)) (hv := (by first | assumption | exact g1.2 _ _ _ rfl | exact hK _ (by omega) | exact hVq.1 | exact M0 _ (by omega) | exact Q0 _ _ (by omega) (by omega) | exact w4 | exact vf | exact w61 | exact w62 | exact yl.1 _ _ (by omega) (by omega))) (k := ?_)
                            refine r_bipush hm rfl (k := ?_)
                            refine r_icmp_eq (t := 237) hm rfl rfl (fun c230 => ?_) (fun c230 => ?_)
                            · refine r_iconst hm rfl (k := ?_)
                              refine r_istore hm rfl (k := ?_)
                              refine r_iload hm rfl (k := ?_)
                              refine r_iload hm rfl (k := ?_)
                              refine r_if_eq (t := 289) hm rfl rfl (fun c244 => ?_) (fun c244 => ?_)
                              · refine r_iconst hm rfl (k := ?_)
                                refine r_iadd hm rfl (hr := (by omega)) (k := ?_)
                                refine r_istore hm rfl (k := ?_)
                                refine r_iload hm rfl (k := ?_)
                                refine r_iload hm rfl (k := ?_)
                                refine r_if_eq (t := 328) hm rfl rfl (fun c297 => ?_) (fun c297 => ?_)
                                · refine r_iconst hm rfl (k := ?_)
                                  refine r_iadd hm rfl (hr := (by omega)) (k := ?_)
                                  refine r_istore hm rfl (k := ?_)
                                  refine r_iinc hm rfl (hr := (by omega)) (k := ?_)
                                  refine r_goto (t := 182) hm rfl (k := ?_)
                                  rw [if_neg (fun z => by unfold cgk at z; rw [decide_eq_true_eq] at z; rw [if_pos ⟨by omega, z.2.2.1⟩] at w62; omega)] at gl
                                  rw [if_neg (fun z => by unfold cgk at z; rw [decide_eq_true_eq] at z; rw [if_pos ⟨by omega, z.2.2.1⟩] at w62; omega)] at gm
                                  exact ih2 (d2 - 1) (by omega) (k + 1) _ _ _ (by omega) (by omega) (by omega) (by omega) (by omega)
                                · exfalso; omega
                              · exfalso; omega
                            · refine r_iconst hm rfl (k := ?_)
                              refine r_goto (t := 238) hm rfl (k := ?_)
                              refine r_istore hm rfl (k := ?_)
                              refine r_iload hm rfl (k := ?_)
                              refine r_iload hm rfl (k := ?_)
                              refine r_if_eq (t := 289) hm rfl rfl (fun c244 => ?_) (fun c244 => ?_)
                              · exfalso; omega
                              · have hcy : k < pcs (S.2.1 q) p ∧ (S.2.1 q).2.2.1 0 p k = 1 := Decidable.byContradiction (fun z => c230 (if_neg z))
                                rw [if_pos hcy] at w61 w62
                                have qN := m_nameMeant g1 hc1 (by omega) hR1 hok (i := i) (k := k) hi hk1 (by omega)
                                refine r_aload_n hm rfl (k := ?_)
                                refine r_getR (hm := hm) (hf := rfl) (hd := rfl) (hs := (by first | assumption | exact (g1.1 _).trans rfl)) (hv := (by first | assumption | exact g1.2 _ _ _ rfl | exact hK _ (by omega) | exact hVq.1 | exact M0 _ (by omega) | exact Q0 _ _ (by omega) (by omega) | exact w4 | exact vf | exact w61 | exact w62 | exact yl.1 _ _ (by omega) (by omega))) (k := ?_)
                                refine r_bipush hm rfl (k := ?_)
                                refine r_iload hm rfl (k := ?_)
                                refine r_imul hm rfl (hr := (by omega)) (k := ?_)
                                refine r_iload hm rfl (k := ?_)
                                refine r_iadd hm rfl (hr := (by omega)) (k := ?_)
                                refine r_iald (hm := hm) (hf := rfl) (hs := (by first | assumption | exact (g1.1 _).trans rfl)) (kk := 20 * (S.1.2.1 0 i).toNat + k) (hi := by omega) (hn := (by omega)) (hv := (by first | assumption | exact g1.2 _ _ _ rfl | exact hK _ (by omega) | exact hVq.1 | exact M0 _ (by omega) | exact Q0 _ _ (by omega) (by omega) | exact w4 | exact vf | exact w61 | exact w62 | exact yl.1 _ _ (by omega) (by omega))) (k := ?_)
                                refine r_aload_n hm rfl (k := ?_)
                                refine r_getR (hm := hm) (hf := rfl) (hd := rfl) (hs := (by first | assumption | exact (g1.1 _).trans rfl)) (hv := (by first | assumption | exact g1.2 _ _ _ rfl | exact hK _ (by omega) | exact hVq.1 | exact M0 _ (by omega) | exact Q0 _ _ (by omega) (by omega) | exact w4 | exact vf | exact w61 | exact w62 | exact yl.1 _ _ (by omega) (by omega))) (k := ?_)
                                refine r_sipush hm rfl (k := ?_)
                                refine r_aload_n hm rfl (k := ?_)
                                refine r_getI (hm := hm) (hf := rfl) (hd := rfl) (hs := (by first | assumption | exact (g1.1 _).trans rfl)) (hv := (by first | assumption | exact g1.2 _ _ _ rfl | exact hK _ (by omega) | exact hVq.1 | exact M0 _ (by omega) | exact Q0 _ _ (by omega) (by omega) | exact w4 | exact vf | exact w61 | exact w62 | exact yl.1 _ _ (by omega) (by omega))) (k := ?_)
                                refine r_imul hm rfl (hr := (by omega)) (k := ?_)
                                refine r_bipush hm rfl (k := ?_)
                                refine r_iload hm rfl (k := ?_)
                                refine r_imul hm rfl (hr := (by omega)) (k := ?_)
                                refine r_iadd hm rfl (hr := (by omega)) (k := ?_)
                                refine r_iload hm rfl (k := ?_)
                                refine r_iadd hm rfl (hr := (by omega)) (k := ?_)
                                refine r_iald (hm := hm) (hf := rfl) (hs := (by first | assumption | exact (g1.1 _).trans rfl)) (kk := 1200 * fin S.1 (S.1.2.2.2 0) + 20 * i + k) (hi := by omega) (hn := (by omega)) (hv := (by first | assumption | exact g1.2 _ _ _ rfl | exact hK _ (by omega) | exact hVq.1 | exact M0 _ (by omega) | exact Q0 _ _ (by omega) (by omega) | exact w4 | exact vf | exact w61 | exact w62 | exact yl.1 _ _ (by omega) (by omega))) (k := ?_)
                                refine r_icmp_eq (t := 289) hm rfl rfl (fun c282 => ?_) (fun c282 => ?_)
                                · refine r_iconst hm rfl (k := ?_)
                                  refine r_iadd hm rfl (hr := (by omega)) (k := ?_)
                                  refine r_istore hm rfl (k := ?_)
                                  refine r_iload hm rfl (k := ?_)
                                  refine r_iload hm rfl (k := ?_)
                                  refine r_if_eq (t := 328) hm rfl rfl (fun c297 => ?_) (fun c297 => ?_)
                                  · exfalso; omega
                                  · refine r_aload_n hm rfl (k := ?_)
                                    refine r_getR (hm := hm) (hf := rfl) (hd := rfl) (hs := (by first | assumption | exact (g1.1 _).trans rfl)) (hv := (by first | assumption | exact g1.2 _ _ _ rfl | exact hK _ (by omega) | exact hVq.1 | exact M0 _ (by omega) | exact Q0 _ _ (by omega) (by omega) | exact w4 | exact vf | exact w61 | exact w62 | exact yl.1 _ _ (by omega) (by omega))) (k := ?_)
                                    refine r_bipush hm rfl (k := ?_)
                                    refine r_iload hm rfl (k := ?_)
                                    refine r_imul hm rfl (hr := (by omega)) (k := ?_)
                                    refine r_iload hm rfl (k := ?_)
                                    refine r_iadd hm rfl (hr := (by omega)) (k := ?_)
                                    refine r_iald (hm := hm) (hf := rfl) (hs := (by first | assumption | exact (g1.1 _).trans rfl)) (kk := 20 * (S.1.2.1 0 i).toNat + k) (hi := by omega) (hn := (by omega)) (hv := (by first | assumption | exact g1.2 _ _ _ rfl | exact hK _ (by omega) | exact hVq.1 | exact M0 _ (by omega) | exact Q0 _ _ (by omega) (by omega) | exact w4 | exact vf | exact w61 | exact w62 | exact yl.1 _ _ (by omega) (by omega))) (k := ?_)
                                    refine r_aload_n hm rfl (k := ?_)
                                    refine r_iload hm rfl (k := ?_)
                                    refine r_iload hm rfl (k := ?_)
                                    refine r_callv (j2 := 224) hm rfl rfl rfl rfl rfl rfl (by first | assumption | exact (g1.1 _).trans rfl) (Nat.le_of_ble_eq_true rfl) (Nat.le_of_ble_eq_true rfl) rfl ⟨Nat.le_of_ble_eq_true rfl, Nat.le_of_ble_eq_true rfl, Nat.le_of_ble_eq_true rfl, Nat.le_of_ble_eq_true rfl, Nat.le_of_ble_eq_true rfl⟩ rfl (qN) (fun v9 h9 p9 => ?_)
                                    obtain ⟨e1, e2⟩ := p9
                                    subst e2
                                    replace e1 := e1.symm
                                    subst e1
                                    change RN 222 321 _ _ _ 0 0 _
                                    dsimp only [Option.toList, List.cons_append, List.nil_append]
                                    refine r_icmp_eq (t := 328) hm rfl rfl (fun c321 => ?_) (fun c321 => ?_)
                                    · refine r_iconst hm rfl (k := ?_)
                                      refine r_iadd hm rfl (hr := (by omega)) (k := ?_)
                                      refine r_istore hm rfl (k := ?_)
                                      refine r_iinc hm rfl (hr := (by omega)) (k := ?_)
                                      refine r_goto (t := 182) hm rfl (k := ?_)
                                      rw [if_neg (fun z => by unfold cgk at z; rw [decide_eq_true_eq] at z; have z4 := z.2.2.2; rw [if_pos rfl] at z4; unfold ltF at w61 z4; omega)] at gl
                                      rw [if_neg (fun z => by unfold cgk at z; rw [decide_eq_true_eq] at z; have z4 := z.2.2.2; rw [if_neg (by omega)] at z4; omega)] at gm
                                      exact ih2 (d2 - 1) (by omega) (k + 1) _ _ _ (by omega) (by omega) (by omega) (by omega) (by omega)
                                    · refine r_iconst hm rfl (k := ?_)
                                      refine r_goto (t := 329) hm rfl (k := ?_)
                                      refine r_iadd hm rfl (hr := (by omega)) (k := ?_)
                                      refine r_istore hm rfl (k := ?_)
                                      refine r_iinc hm rfl (hr := (by omega)) (k := ?_)
                                      refine r_goto (t := 182) hm rfl (k := ?_)
                                      rw [if_neg (fun z => by unfold cgk at z; rw [decide_eq_true_eq] at z; have z4 := z.2.2.2; rw [if_pos rfl] at z4; unfold ltF at w61 z4; omega)] at gl
                                      rw [if_pos (by unfold cgk; rw [decide_eq_true_eq]; exact ⟨by omega, by omega, hcy.2, by rw [if_neg (by omega)]; omega⟩)] at gm
                                      exact ih2 (d2 - 1) (by omega) (k + 1) _ _ _ (by omega) (by omega) (by omega) (by omega) (by omega)
                                · refine r_iconst hm rfl (k := ?_)
                                  refine r_goto (t := 290) hm rfl (k := ?_)
                                  refine r_iadd hm rfl (hr := (by omega)) (k := ?_)
                                  refine r_istore hm rfl (k := ?_)
                                  refine r_iload hm rfl (k := ?_)
                                  refine r_iload hm rfl (k := ?_)
                                  refine r_if_eq (t := 328) hm rfl rfl (fun c297 => ?_) (fun c297 => ?_)
                                  · exfalso; omega
                                  · refine r_aload_n hm rfl (k := ?_)
                                    refine r_getR (hm := hm) (hf := rfl) (hd := rfl) (hs := (by first | assumption | exact (g1.1 _).trans rfl)) (hv := (by first | assumption | exact g1.2 _ _ _ rfl | exact hK _ (by omega) | exact hVq.1 | exact M0 _ (by omega) | exact Q0 _ _ (by omega) (by omega) | exact w4 | exact vf | exact w61 | exact w62 | exact yl.1 _ _ (by omega) (by omega))) (k := ?_)
                                    refine r_bipush hm rfl (k := ?_)
                                    refine r_iload hm rfl (k := ?_)
                                    refine r_imul hm rfl (hr := (by omega)) (k := ?_)
                                    refine r_iload hm rfl (k := ?_)
                                    refine r_iadd hm rfl (hr := (by omega)) (k := ?_)
                                    refine r_iald (hm := hm) (hf := rfl) (hs := (by first | assumption | exact (g1.1 _).trans rfl)) (kk := 20 * (S.1.2.1 0 i).toNat + k) (hi := by omega) (hn := (by omega)) (hv := (by first | assumption | exact g1.2 _ _ _ rfl | exact hK _ (by omega) | exact hVq.1 | exact M0 _ (by omega) | exact Q0 _ _ (by omega) (by omega) | exact w4 | exact vf | exact w61 | exact w62 | exact yl.1 _ _ (by omega) (by omega))) (k := ?_)
                                    refine r_aload_n hm rfl (k := ?_)
                                    refine r_iload hm rfl (k := ?_)
                                    refine r_iload hm rfl (k := ?_)
                                    refine r_callv (j2 := 224) hm rfl rfl rfl rfl rfl rfl (by first | assumption | exact (g1.1 _).trans rfl) (Nat.le_of_ble_eq_true rfl) (Nat.le_of_ble_eq_true rfl) rfl ⟨Nat.le_of_ble_eq_true rfl, Nat.le_of_ble_eq_true rfl, Nat.le_of_ble_eq_true rfl, Nat.le_of_ble_eq_true rfl, Nat.le_of_ble_eq_true rfl⟩ rfl (qN) (fun v9 h9 p9 => ?_)
                                    obtain ⟨e1, e2⟩ := p9
                                    subst e2
                                    replace e1 := e1.symm
                                    subst e1
                                    change RN 222 321 _ _ _ 0 0 _
                                    dsimp only [Option.toList, List.cons_append, List.nil_append]
                                    refine r_icmp_eq (t := 328) hm rfl rfl (fun c321 => ?_) (fun c321 => ?_)
                                    · refine r_iconst hm rfl (k := ?_)
                                      refine r_iadd hm rfl (hr := (by omega)) (k := ?_)
                                      refine r_istore hm rfl (k := ?_)
                                      refine r_iinc hm rfl (hr := (by omega)) (k := ?_)
                                      refine r_goto (t := 182) hm rfl (k := ?_)
                                      rw [if_pos (by unfold cgk; rw [decide_eq_true_eq]; exact ⟨by omega, by omega, hcy.2, by rw [if_pos rfl]; unfold ltF at w61 ⊢; omega⟩)] at gl
                                      rw [if_neg (fun z => by unfold cgk at z; rw [decide_eq_true_eq] at z; have z4 := z.2.2.2; rw [if_neg (by omega)] at z4; omega)] at gm
                                      exact ih2 (d2 - 1) (by omega) (k + 1) _ _ _ (by omega) (by omega) (by omega) (by omega) (by omega)
                                    · refine r_iconst hm rfl (k := ?_)
                                      refine r_goto (t := 329) hm rfl (k := ?_)
                                      refine r_iadd hm rfl (hr := (by omega)) (k := ?_)
                                      refine r_istore hm rfl (k := ?_)
                                      refine r_iinc hm rfl (hr := (by omega)) (k := ?_)
                                      refine r_goto (t := 182) hm rfl (k := ?_)
                                      rw [if_pos (by unfold cgk; rw [decide_eq_true_eq]; exact ⟨by omega, by omega, hcy.2, by rw [if_pos rfl]; unfold ltF at w61 ⊢; omega⟩)] at gl
                                      rw [if_pos (by unfold cgk; rw [decide_eq_true_eq]; exact ⟨by omega, by omega, hcy.2, by rw [if_neg (by omega)]; omega⟩)] at gm
                                      exact ih2 (d2 - 1) (by omega) (k + 1) _ _ _ (by omega) (by omega) (by omega) (by omega) (by omega)
                    · refine r_iconst hm rfl (k := ?_)
                      refine r_goto (t := 176) hm rfl (k := ?_)
                      refine r_iadd hm rfl (hr := (by omega)) (k := ?_)
                      refine r_istore hm rfl (k := ?_)
                      refine r_iconst hm rfl (k := ?_)
                      refine r_istore hm rfl (k := ?_)
                      suffices LP : ∀ (d2 k : Nat) (l2 m2 : Int) (z12 : Option Vl), k + d2 = pcs S.1 i → (0 ≤ l2 ∧ l2 ≤ 20 * i + k) → (0 ≤ m2 ∧ m2 ≤ 20 * i + k) → l2 + sm (fun k => if cgk S.1 (S.2.1 q) (S.1.2.2.2 0) ((S.2.1 q).2.2.2 0) 3 i p k = true then (1 : Int) else 0) k d2 = le + cgc S.1 (S.2.1 q) (S.1.2.2.2 0) ((S.2.1 q).2.2.2 0) 3 i p → m2 + sm (fun k => if cgk S.1 (S.2.1 q) (S.1.2.2.2 0) ((S.2.1 q).2.2.2 0) 4 i p k = true then (1 : Int) else 0) k d2 = me + cgc S.1 (S.2.1 q) (S.1.2.2.2 0) ((S.2.1 q).2.2.2 0) 4 i p → RN 222 182 [some (.inr (.inr (some 1085))), some (.inl (q : Int)), some (.inl w), some (.inl (al + -1)), some (.inl (nu + 0)), some (.inl (ot + 1)), some (.inl l2), some (.inl m2), some (.inl (i : Int)), some (.inl (S.1.2.1 0 i)), some (.inl 1), some (.inl (k : Int)), z12] [] hB 0 0 (fun v h2 => InvM L h2 S ∧ FxM h h2 ∧ v = some (.inl (aBeside S (q : Int) w))) from LP (pcs S.1 i) 0 le me _ (by omega) (by omega) (by omega) (by unfold cgc; omega) (by unfold cgc; omega)
                      refine fun d2 => Nat.strongRecOn d2 (fun d2 ih2 => ?_)
                      intro k l2 m2 z12 hd2 bl bm rl rm
                      refine r_iload hm rfl (k := ?_)
                      refine r_aload_n hm rfl (k := ?_)
                      refine r_iload hm rfl (k := ?_)
                      refine r_callv (j2 := 181) hm rfl rfl rfl rfl rfl rfl (by first | assumption | exact (g1.1 _).trans rfl) (Nat.le_of_ble_eq_true rfl) (Nat.le_of_ble_eq_true rfl) rfl ⟨Nat.le_of_ble_eq_true rfl, Nat.le_of_ble_eq_true rfl, Nat.le_of_ble_eq_true rfl, Nat.le_of_ble_eq_true rfl, Nat.le_of_ble_eq_true rfl⟩ rfl (m_piecesOf g1 hc1 (by omega) hR1 (i := i) (by omega)) (fun v9 h9 p9 => ?_)
                      obtain ⟨e1, e2⟩ := p9
                      subst e2
                      replace e1 := e1.symm
                      subst e1
                      change RN 222 190 _ _ _ 0 0 _
                      dsimp only [Option.toList, List.cons_append, List.nil_append]
                      refine r_icmp_ge (t := 338) hm rfl rfl (fun c190 => ?_) (fun c190 => ?_)
                      · refine r_iinc hm rfl (hr := (by omega)) (k := ?_)
                        refine r_goto (t := 67) hm rfl (k := ?_)
                        have d0 : d2 = 0 := by omega
                        subst d0
                        have s3 : sm (fun k => if cgk S.1 (S.2.1 q) (S.1.2.2.2 0) ((S.2.1 q).2.2.2 0) 3 i p k = true then (1 : Int) else 0) k 0 = 0 := rfl
                        have s4 : sm (fun k => if cgk S.1 (S.2.1 q) (S.1.2.2.2 0) ((S.2.1 q).2.2.2 0) 4 i p k = true then (1 : Int) else 0) k 0 = 0 := rfl
                        rw [if_pos hl9] at f1
                        rw [if_neg (by unfold fpF ltF at *; omega)] at f2
                        exact ih (d - 1) (by omega) (i + 1) _ _ _ _ _ _ _ _ _ (by omega) (by omega) (by omega) (by omega) (by omega) (by omega) (by omega) (by omega) (by omega) (by omega) (by omega)
                      · refine r_iload hm rfl (k := ?_)
                        refine r_if_eq (t := 338) hm rfl rfl (fun c195 => ?_) (fun c195 => ?_)
                        · exfalso; omega
                        · have hk1 : k < pcs S.1 i := by omega
                          have hz := hok.2.2.1 i k hi (by omega)
                          unfold okPc at hz
                          have w6k := w6 k (by omega)
                          obtain ⟨eq1, eq2⟩ := pcs_eq oky hp2
                          have nmr := @nmn_rng (S.2.1 q) oky p k
                          have gl := sm_go (f := (fun k => if cgk S.1 (S.2.1 q) (S.1.2.2.2 0) ((S.2.1 q).2.2.2 0) 3 i p k = true then (1 : Int) else 0)) (i := k) (d := d2) (by omega)
                          have gm := sm_go (f := (fun k => if cgk S.1 (S.2.1 q) (S.1.2.2.2 0) ((S.2.1 q).2.2.2 0) 4 i p k = true then (1 : Int) else 0)) (i := k) (d := d2) (by omega)
                          try dsimp only at gl gm
                          obtain ⟨cy, ecy⟩ : ∃ cy : Prop, cy = (k < pcs (S.2.1 q) p ∧ (S.2.1 q).2.2.1 0 p k = 1) := ⟨_, rfl⟩
                          have w61 := w6k.1
                          have w62 := w6k.2
                          refine r_aload_n hm rfl (k := ?_)
                          refine r_getR (hm := hm) (hf := rfl) (hd := rfl) (hs := (by first | assumption | exact (g1.1 _).trans rfl)) (hv := (by first | assumption | exact g1.2 _ _ _ rfl | exact hK _ (by omega) | exact hVq.1 | exact M0 _ (by omega) | exact Q0 _ _ (by omega) (by omega) | exact w4 | exact vf | exact w61 | exact w62 | exact yl.1 _ _ (by omega) (by omega))) (k := ?_)
                          refine r_aload_n hm rfl (k := ?_)
                          refine r_iload hm rfl (k := ?_)
                          refine r_iload hm rfl (k := ?_)
                          refine r_callv (j2 := 186) hm rfl rfl rfl rfl rfl rfl (by first | assumption | exact (g1.1 _).trans rfl) (Nat.le_of_ble_eq_true rfl) (Nat.le_of_ble_eq_true rfl) rfl ⟨Nat.le_of_ble_eq_true rfl, Nat.le_of_ble_eq_true rfl, Nat.le_of_ble_eq_true rfl, Nat.le_of_ble_eq_true rfl, Nat.le_of_ble_eq_true rfl⟩ rfl (m_place g1 hc1 (by omega) hR1 (i := i) (k := k) (by omega) (by omega)) (fun v9 h9 p9 => ?_)
                          obtain ⟨e1, e2⟩ := p9
                          subst e2
                          replace e1 := e1.symm
                          subst e1
                          change RN 222 210 _ _ _ 0 0 _
                          dsimp only [Option.toList, List.cons_append, List.nil_append]
                          refine r_iald (hm := hm) (hf := rfl) (hs := (by first | assumption | exact (g1.1 _).trans rfl)) (hi := rfl) (hn := (by omega)) (hv := (by first | assumption | exact g1.2 _ _ _ rfl | exact hK _ (by omega) | exact hVq.1 | exact M0 _ (by omega) | exact Q0 _ _ (by omega) (by omega) | exact w4 | exact vf | exact w61 | exact w62 | exact yl.1 _ _ (by omega) (by omega))) (k := ?_)
                          refine r_iconst hm rfl (k := ?_)
                          refine r_icmp_ne (t := 237) hm rfl rfl (fun c212 => ?_) (fun c212 => ?_)
                          · refine r_iconst hm rfl (k := ?_)
                            refine r_istore hm rfl (k := ?_)
                            refine r_iload hm rfl (k := ?_)
                            refine r_iload hm rfl (k := ?_)
                            refine r_if_eq (t := 289) hm rfl rfl (fun c244 => ?_) (fun c244 => ?_)
                            · refine r_iconst hm rfl (k := ?_)
                              refine r_iadd hm rfl (hr := (by omega)) (k := ?_)
                              refine r_istore hm rfl (k := ?_)
                              refine r_iload hm rfl (k := ?_)
                              refine r_iload hm rfl (k := ?_)
                              refine r_if_eq (t := 328) hm rfl rfl (fun c297 => ?_) (fun c297 => ?_)
                              · refine r_iconst hm rfl (k := ?_)
                                refine r_iadd hm rfl (hr := (by omega)) (k := ?_)
                                refine r_istore hm rfl (k := ?_)
                                refine r_iinc hm rfl (hr := (by omega)) (k := ?_)
                                refine r_goto (t := 182) hm rfl (k := ?_)
                                rw [if_neg (fun z => by unfold cgk at z; rw [decide_eq_true_eq] at z; omega)] at gl
                                rw [if_neg (fun z => by unfold cgk at z; rw [decide_eq_true_eq] at z; omega)] at gm
                                exact ih2 (d2 - 1) (by omega) (k + 1) _ _ _ (by omega) (by omega) (by omega) (by omega) (by omega)
                              · exfalso; omega
                            · exfalso; omega
                          · refine r_aload_n hm rfl (k := ?_)
                            refine r_getR (hm := hm) (hf := rfl) (hd := rfl) (hs := (by first | assumption | exact (g1.1 _).trans rfl)) (hv := (by first | assumption | exact g1.2 _ _ _ rfl | exact hK _ (by omega) | exact hVq.1 | exact M0 _ (by omega) | exact Q0 _ _ (by omega) (by omega) | exact w4 | exact vf | exact w61 | exact w62 | exact yl.1 _ _ (by omega) (by omega))) (k := ?_)
                            refine r_bipush hm rfl (k := ?_)
                            refine r_iload hm rfl (k := ?_)
                            refine r_imul hm rfl (hr := (by omega)) (k := ?_)
                            refine r_iload hm rfl (k := ?_)
                            refine r_iadd hm rfl (hr := (by omega)) (k := ?_)
                            refine r_iald (hm := hm) (hf := rfl) (hs := (by first | assumption | exact (g1.1 _).trans rfl)) (kk := 20 * (S.1.2.1 0 i).toNat + k) (hi := by omega) (hn := (by omega)) (hv := (by first | assumption | exact g1.2 _ _ _ rfl | exact hK _ (by omega) | exact hVq.1 | exact M0 _ (by omega) | exact Q0 _ _ (by omega) (by omega) | exact w4 | exact vf | exact w61 | exact w62 | exact yl.1 _ _ (by omega) (by omega))) (k := ?_)
                            refine r_bipush hm rfl (k := ?_)
                            refine r_icmp_eq (t := 237) hm rfl rfl (fun c230 => ?_) (fun c230 => ?_)
                            · refine r_iconst hm rfl (k := ?_)
                              refine r_istore hm rfl (k := ?_)
                              refine r_iload hm rfl (k := ?_)
                              refine r_iload hm rfl (k := ?_)
                              refine r_if_eq (t := 289) hm rfl rfl (fun c244 => ?_) (fun c244 => ?_)
                              · refine r_iconst hm rfl (k := ?_)
                                refine r_iadd hm rfl (hr := (by omega)) (k := ?_)
                                refine r_istore hm rfl (k := ?_)
                                refine r_iload hm rfl (k := ?_)
                                refine r_iload hm rfl (k := ?_)
                                refine r_if_eq (t := 328) hm rfl rfl (fun c297 => ?_) (fun c297 => ?_)
                                · refine r_iconst hm rfl (k := ?_)
                                  refine r_iadd hm rfl (hr := (by omega)) (k := ?_)
                                  refine r_istore hm rfl (k := ?_)
                                  refine r_iinc hm rfl (hr := (by omega)) (k := ?_)
                                  refine r_goto (t := 182) hm rfl (k := ?_)
                                  rw [if_neg (fun z => by unfold cgk at z; rw [decide_eq_true_eq] at z; rw [if_pos ⟨by omega, z.2.2.1⟩] at w62; omega)] at gl
                                  rw [if_neg (fun z => by unfold cgk at z; rw [decide_eq_true_eq] at z; rw [if_pos ⟨by omega, z.2.2.1⟩] at w62; omega)] at gm
                                  exact ih2 (d2 - 1) (by omega) (k + 1) _ _ _ (by omega) (by omega) (by omega) (by omega) (by omega)
                                · exfalso; omega
                              · exfalso; omega
                            · refine r_iconst hm rfl (k := ?_)
                              refine r_goto (t := 238) hm rfl (k := ?_)
                              refine r_istore hm rfl (k := ?_)
                              refine r_iload hm rfl (k := ?_)
                              refine r_iload hm rfl (k := ?_)
                              refine r_if_eq (t := 289) hm rfl rfl (fun c244 => ?_) (fun c244 => ?_)
                              · exfalso; omega
                              · have hcy : k < pcs (S.2.1 q) p ∧ (S.2.1 q).2.2.1 0 p k = 1 := Decidable.byContradiction (fun z => c230 (if_neg z))
                                rw [if_pos hcy] at w61 w62
                                have qN := m_nameMeant g1 hc1 (by omega) hR1 hok (i := i) (k := k) hi hk1 (by omega)
                                refine r_aload_n hm rfl (k := ?_)
                                refine r_getR (hm := hm) (hf := rfl) (hd := rfl) (hs := (by first | assumption | exact (g1.1 _).trans rfl)) (hv := (by first | assumption | exact g1.2 _ _ _ rfl | exact hK _ (by omega) | exact hVq.1 | exact M0 _ (by omega) | exact Q0 _ _ (by omega) (by omega) | exact w4 | exact vf | exact w61 | exact w62 | exact yl.1 _ _ (by omega) (by omega))) (k := ?_)
                                refine r_bipush hm rfl (k := ?_)
                                refine r_iload hm rfl (k := ?_)
                                refine r_imul hm rfl (hr := (by omega)) (k := ?_)
                                refine r_iload hm rfl (k := ?_)
                                refine r_iadd hm rfl (hr := (by omega)) (k := ?_)
                                refine r_iald (hm := hm) (hf := rfl) (hs := (by first | assumption | exact (g1.1 _).trans rfl)) (kk := 20 * (S.1.2.1 0 i).toNat + k) (hi := by omega) (hn := (by omega)) (hv := (by first | assumption | exact g1.2 _ _ _ rfl | exact hK _ (by omega) | exact hVq.1 | exact M0 _ (by omega) | exact Q0 _ _ (by omega) (by omega) | exact w4 | exact vf | exact w61 | exact w62 | exact yl.1 _ _ (by omega) (by omega))) (k := ?_)
                                refine r_aload_n hm rfl (k := ?_)
                                refine r_getR (hm := hm) (hf := rfl) (hd := rfl) (hs := (by first | assumption | exact (g1.1 _).trans rfl)) (hv := (by first | assumption | exact g1.2 _ _ _ rfl | exact hK _ (by omega) | exact hVq.1 | exact M0 _ (by omega) | exact Q0 _ _ (by omega) (by omega) | exact w4 | exact vf | exact w61 | exact w62 | exact yl.1 _ _ (by omega) (by omega))) (k := ?_)
                                refine r_sipush hm rfl (k := ?_)
                                refine r_aload_n hm rfl (k := ?_)
                                refine r_getI (hm := hm) (hf := rfl) (hd := rfl) (hs := (by first | assumption | exact (g1.1 _).trans rfl)) (hv := (by first | assumption | exact g1.2 _ _ _ rfl | exact hK _ (by omega) | exact hVq.1 | exact M0 _ (by omega) | exact Q0 _ _ (by omega) (by omega) | exact w4 | exact vf | exact w61 | exact w62 | exact yl.1 _ _ (by omega) (by omega))) (k := ?_)
                                refine r_imul hm rfl (hr := (by omega)) (k := ?_)
                                refine r_bipush hm rfl (k := ?_)
                                refine r_iload hm rfl (k := ?_)
                                refine r_imul hm rfl (hr := (by omega)) (k := ?_)
                                refine r_iadd hm rfl (hr := (by omega)) (k := ?_)
                                refine r_iload hm rfl (k := ?_)
                                refine r_iadd hm rfl (hr := (by omega)) (k := ?_)
                                refine r_iald (hm := hm) (hf := rfl) (hs := (by first | assumption | exact (g1.1 _).trans rfl)) (kk := 1200 * fin S.1 (S.1.2.2.2 0) + 20 * i + k) (hi := by omega) (hn := (by omega)) (hv := (by first | assumption | exact g1.2 _ _ _ rfl | exact hK _ (by omega) | exact hVq.1 | exact M0 _ (by omega) | exact Q0 _ _ (by omega) (by omega) | exact w4 | exact vf | exact w61 | exact w62 | exact yl.1 _ _ (by omega) (by omega))) (k := ?_)
                                refine r_icmp_eq (t := 289) hm rfl rfl (fun c282 => ?_) (fun c282 => ?_)
                                · refine r_iconst hm rfl (k := ?_)
                                  refine r_iadd hm rfl (hr := (by omega)) (k := ?_)
                                  refine r_istore hm rfl (k := ?_)
                                  refine r_iload hm rfl (k := ?_)
                                  refine r_iload hm rfl (k := ?_)
                                  refine r_if_eq (t := 328) hm rfl rfl (fun c297 => ?_) (fun c297 => ?_)
                                  · exfalso; omega
                                  · refine r_aload_n hm rfl (k := ?_)
                                    refine r_getR (hm := hm) (hf := rfl) (hd := rfl) (hs := (by first | assumption | exact (g1.1 _).trans rfl)) (hv := (by first | assumption | exact g1.2 _ _ _ rfl | exact hK _ (by omega) | exact hVq.1 | exact M0 _ (by omega) | exact Q0 _ _ (by omega) (by omega) | exact w4 | exact vf | exact w61 | exact w62 | exact yl.1 _ _ (by omega) (by omega))) (k := ?_)
                                    refine r_bipush hm rfl (k := ?_)
                                    refine r_iload hm rfl (k := ?_)
                                    refine r_imul hm rfl (hr := (by omega)) (k := ?_)
                                    refine r_iload hm rfl (k := ?_)
                                    refine r_iadd hm rfl (hr := (by omega)) (k := ?_)
                                    refine r_iald (hm := hm) (hf := rfl) (hs := (by first | assumption | exact (g1.1 _).trans rfl)) (kk := 20 * (S.1.2.1 0 i).toNat + k) (hi := by omega) (hn := (by omega)) (hv := (by first | assumption | exact g1.2 _ _ _ rfl | exact hK _ (by omega) | exact hVq.1 | exact M0 _ (by omega) | exact Q0 _ _ (by omega) (by omega) | exact w4 | exact vf | exact w61 | exact w62 | exact yl.1 _ _ (by omega) (by omega))) (k := ?_)
                                    refine r_aload_n hm rfl (k := ?_)
                                    refine r_iload hm rfl (k := ?_)
                                    refine r_iload hm rfl (k := ?_)
                                    refine r_callv (j2 := 224) hm rfl rfl rfl rfl rfl rfl (by first | assumption | exact (g1.1 _).trans rfl) (Nat.le_of_ble_eq_true rfl) (Nat.le_of_ble_eq_true rfl) rfl ⟨Nat.le_of_ble_eq_true rfl, Nat.le_of_ble_eq_true rfl, Nat.le_of_ble_eq_true rfl, Nat.le_of_ble_eq_true rfl, Nat.le_of_ble_eq_true rfl⟩ rfl (qN) (fun v9 h9 p9 => ?_)
                                    obtain ⟨e1, e2⟩ := p9
                                    subst e2
                                    replace e1 := e1.symm
                                    subst e1
                                    change RN 222 321 _ _ _ 0 0 _
                                    dsimp only [Option.toList, List.cons_append, List.nil_append]
                                    refine r_icmp_eq (t := 328) hm rfl rfl (fun c321 => ?_) (fun c321 => ?_)
                                    · refine r_iconst hm rfl (k := ?_)
                                      refine r_iadd hm rfl (hr := (by omega)) (k := ?_)
                                      refine r_istore hm rfl (k := ?_)
                                      refine r_iinc hm rfl (hr := (by omega)) (k := ?_)
                                      refine r_goto (t := 182) hm rfl (k := ?_)
                                      rw [if_neg (fun z => by unfold cgk at z; rw [decide_eq_true_eq] at z; have z4 := z.2.2.2; rw [if_pos rfl] at z4; unfold ltF at w61 z4; omega)] at gl
                                      rw [if_neg (fun z => by unfold cgk at z; rw [decide_eq_true_eq] at z; have z4 := z.2.2.2; rw [if_neg (by omega)] at z4; omega)] at gm
                                      exact ih2 (d2 - 1) (by omega) (k + 1) _ _ _ (by omega) (by omega) (by omega) (by omega) (by omega)
                                    · refine r_iconst hm rfl (k := ?_)
                                      refine r_goto (t := 329) hm rfl (k := ?_)
                                      refine r_iadd hm rfl (hr := (by omega)) (k := ?_)
                                      refine r_istore hm rfl (k := ?_)
                                      refine r_iinc hm rfl (hr := (by omega)) (k := ?_)
                                      refine r_goto (t := 182) hm rfl (k := ?_)
                                      rw [if_neg (fun z => by unfold cgk at z; rw [decide_eq_true_eq] at z; have z4 := z.2.2.2; rw [if_pos rfl] at z4; unfold ltF at w61 z4; omega)] at gl
                                      rw [if_pos (by unfold cgk; rw [decide_eq_true_eq]; exact ⟨by omega, by omega, hcy.2, by rw [if_neg (by omega)]; omega⟩)] at gm
                                      exact ih2 (d2 - 1) (by omega) (k + 1) _ _ _ (by omega) (by omega) (by omega) (by omega) (by omega)
                                · refine r_iconst hm rfl (k := ?_)
                                  refine r_goto (t := 290) hm rfl (k := ?_)
                                  refine r_iadd hm rfl (hr := (by omega)) (k := ?_)
                                  refine r_istore hm rfl (k := ?_)
                                  refine r_iload hm rfl (k := ?_)
                                  refine r_iload hm rfl (k := ?_)
                                  refine r_if_eq (t := 328) hm rfl rfl (fun c297 => ?_) (fun c297 => ?_)
                                  · exfalso; omega
                                  · refine r_aload_n hm rfl (k := ?_)
                                    refine r_getR (hm := hm) (hf := rfl) (hd := rfl) (hs := (by first | assumption | exact (g1.1 _).trans rfl)) (hv := (by first | assumption | exact g1.2 _ _ _ rfl | exact hK _ (by omega) | exact hVq.1 | exact M0 _ (by omega) | exact Q0 _ _ (by omega) (by omega) | exact w4 | exact vf | exact w61 | exact w62 | exact yl.1 _ _ (by omega) (by omega))) (k := ?_)
                                    refine r_bipush hm rfl (k := ?_)
                                    refine r_iload hm rfl (k := ?_)
                                    refine r_imul hm rfl (hr := (by omega)) (k := ?_)
                                    refine r_iload hm rfl (k := ?_)
                                    refine r_iadd hm rfl (hr := (by omega)) (k := ?_)
                                    refine r_iald (hm := hm) (hf := rfl) (hs := (by first | assumption | exact (g1.1 _).trans rfl)) (kk := 20 * (S.1.2.1 0 i).toNat + k) (hi := by omega) (hn := (by omega)) (hv := (by first | assumption | exact g1.2 _ _ _ rfl | exact hK _ (by omega) | exact hVq.1 | exact M0 _ (by omega) | exact Q0 _ _ (by omega) (by omega) | exact w4 | exact vf | exact w61 | exact w62 | exact yl.1 _ _ (by omega) (by omega))) (k := ?_)
                                    refine r_aload_n hm rfl (k := ?_)
                                    refine r_iload hm rfl (k := ?_)
                                    refine r_iload hm rfl (k := ?_)
                                    refine r_callv (j2 := 224) hm rfl rfl rfl rfl rfl rfl (by first | assumption | exact (g1.1 _).trans rfl) (Nat.le_of_ble_eq_true rfl) (Nat.le_of_ble_eq_true rfl) rfl ⟨Nat.le_of_ble_eq_true rfl, Nat.le_of_ble_eq_true rfl, Nat.le_of_ble_eq_true rfl, Nat.le_of_ble_eq_true rfl, Nat.le_of_ble_eq_true rfl⟩ rfl (qN) (fun v9 h9 p9 => ?_)
                                    obtain ⟨e1, e2⟩ := p9
                                    subst e2
                                    replace e1 := e1.symm
                                    subst e1
                                    change RN 222 321 _ _ _ 0 0 _
                                    dsimp only [Option.toList, List.cons_append, List.nil_append]
                                    refine r_icmp_eq (t := 328) hm rfl rfl (fun c321 => ?_) (fun c321 => ?_)
                                    · refine r_iconst hm rfl (k := ?_)
                                      refine r_iadd hm rfl (hr := (by omega)) (k := ?_)
                                      refine r_istore hm rfl (k := ?_)
                                      refine r_iinc hm rfl (hr := (by omega)) (k := ?_)
                                      refine r_goto (t := 182) hm rfl (k := ?_)
                                      rw [if_pos (by unfold cgk; rw [decide_eq_true_eq]; exact ⟨by omega, by omega, hcy.2, by rw [if_pos rfl]; unfold ltF at w61 ⊢; omega⟩)] at gl
                                      rw [if_neg (fun z => by unfold cgk at z; rw [decide_eq_true_eq] at z; have z4 := z.2.2.2; rw [if_neg (by omega)] at z4; omega)] at gm
                                      exact ih2 (d2 - 1) (by omega) (k + 1) _ _ _ (by omega) (by omega) (by omega) (by omega) (by omega)
                                    · refine r_iconst hm rfl (k := ?_)
                                      refine r_goto (t := 329) hm rfl (k := ?_)
                                      refine r_iadd hm rfl (hr := (by omega)) (k := ?_)
                                      refine r_istore hm rfl (k := ?_)
                                      refine r_iinc hm rfl (hr := (by omega)) (k := ?_)
                                      refine r_goto (t := 182) hm rfl (k := ?_)
                                      rw [if_pos (by unfold cgk; rw [decide_eq_true_eq]; exact ⟨by omega, by omega, hcy.2, by rw [if_pos rfl]; unfold ltF at w61 ⊢; omega⟩)] at gl
                                      rw [if_pos (by unfold cgk; rw [decide_eq_true_eq]; exact ⟨by omega, by omega, hcy.2, by rw [if_neg (by omega)]; omega⟩)] at gm
                                      exact ih2 (d2 - 1) (by omega) (k + 1) _ _ _ (by omega) (by omega) (by omega) (by omega) (by omega)
                · have hl9 : ¬ lkn S.1 (S.2.1 q) i p = true := by rcases hbo with z | z; exact z.1; omega
                  refine r_iconst hm rfl (k := ?_)
                  refine r_goto (t := 144) hm rfl (k := ?_)
                  refine r_iadd hm rfl (hr := (by omega)) (k := ?_)
                  refine r_istore hm rfl (k := ?_)
                  refine r_iload hm rfl (k := ?_)
                  refine r_iload hm rfl (k := ?_)
                  refine r_if_eq (t := 175) hm rfl rfl (fun c151 => ?_) (fun c151 => ?_)
                  · exfalso; omega
                  · have vf := vfp i (by have := pr i hi; omega)
                    refine r_aload_n hm rfl (k := ?_)
                    refine r_getR (hm := hm) (hf := rfl) (hd := rfl) (hs := (by first | assumption | exact (g1.1 _).trans rfl)) (hv := (by first | assumption | exact g1.2 _ _ _ rfl | exact hK _ (by omega) | exact hVq.1 | exact M0 _ (by omega) | exact Q0 _ _ (by omega) (by omega) | exact w4 | exact vf | exact w61 | exact w62 | exact yl.1 _ _ (by omega) (by omega))) (k := ?_)
                    refine r_iload hm rfl (k := ?_)
                    refine r_iald (hm := hm) (hf := rfl) (hs := (by first | assumption | exact (g1.1 _).trans rfl)) (kk := (S.1.2.1 0 i).toNat) (hi := by omega) (hn := (by omega)) (hv := (by first | assumption | exact g1.2 _ _ _ rfl | exact hK _ (by omega) | exact hVq.1 | exact M0 _ (by omega) | exact Q0 _ _ (by omega) (by omega) | exact w4 | exact vf | exact w61 | exact w62 | exact yl.1 _ _ (by omega) (by omega))) (k := ?_)
                    refine r_aload_n hm rfl (k := ?_)
                    refine r_getR (hm := hm) (hf := rfl) (hd := rfl) (hs := (by first | assumption | exact (g1.1 _).trans rfl)) (hv := (by first | assumption | exact g1.2 _ _ _ rfl | exact hK _ (by omega) | exact hVq.1 | exact M0 _ (by omega) | exact Q0 _ _ (by omega) (by omega) | exact w4 | exact vf | exact w61 | exact w62 | exact yl.1 _ _ (by omega) (by omega))) (k := ?_)
                    refine r_iload hm rfl (k := ?_)
                    refine r_iald (hm := hm) (hf := rfl) (hs := (by first | assumption | exact (g1.1 _).trans rfl)) (kk := i) (hi := by omega) (hn := (by omega)) (hv := (by first | assumption | exact g1.2 _ _ _ rfl | exact hK _ (by omega) | exact hVq.1 | exact M0 _ (by omega) | exact Q0 _ _ (by omega) (by omega) | exact w4 | exact vf | exact w61 | exact w62 | exact yl.1 _ _ (by omega) (by omega))) (k := ?_)
                    refine r_icmp_eq (t := 175) hm rfl rfl (fun c168 => ?_) (fun c168 => ?_)
                    · refine r_iconst hm rfl (k := ?_)
                      refine r_iadd hm rfl (hr := (by omega)) (k := ?_)
                      refine r_istore hm rfl (k := ?_)
                      refine r_iconst hm rfl (k := ?_)
                      refine r_istore hm rfl (k := ?_)
                      suffices LP : ∀ (d2 k : Nat) (l2 m2 : Int) (z12 : Option Vl), k + d2 = pcs S.1 i → (0 ≤ l2 ∧ l2 ≤ 20 * i + k) → (0 ≤ m2 ∧ m2 ≤ 20 * i + k) → l2 + sm (fun k => if cgk S.1 (S.2.1 q) (S.1.2.2.2 0) ((S.2.1 q).2.2.2 0) 3 i p k = true then (1 : Int) else 0) k d2 = le + cgc S.1 (S.2.1 q) (S.1.2.2.2 0) ((S.2.1 q).2.2.2 0) 3 i p → m2 + sm (fun k => if cgk S.1 (S.2.1 q) (S.1.2.2.2 0) ((S.2.1 q).2.2.2 0) 4 i p k = true then (1 : Int) else 0) k d2 = me + cgc S.1 (S.2.1 q) (S.1.2.2.2 0) ((S.2.1 q).2.2.2 0) 4 i p → RN 222 182 [some (.inr (.inr (some 1085))), some (.inl (q : Int)), some (.inl w), some (.inl (al + -1)), some (.inl (nu + 1)), some (.inl (ot + 0)), some (.inl l2), some (.inl m2), some (.inl (i : Int)), some (.inl (S.1.2.1 0 i)), some (.inl 1), some (.inl (k : Int)), z12] [] hB 0 0 (fun v h2 => InvM L h2 S ∧ FxM h h2 ∧ v = some (.inl (aBeside S (q : Int) w))) from LP (pcs S.1 i) 0 le me _ (by omega) (by omega) (by omega) (by unfold cgc; omega) (by unfold cgc; omega)
                      refine fun d2 => Nat.strongRecOn d2 (fun d2 ih2 => ?_)
                      intro k l2 m2 z12 hd2 bl bm rl rm
                      refine r_iload hm rfl (k := ?_)
                      refine r_aload_n hm rfl (k := ?_)
                      refine r_iload hm rfl (k := ?_)
                      refine r_callv (j2 := 181) hm rfl rfl rfl rfl rfl rfl (by first | assumption | exact (g1.1 _).trans rfl) (Nat.le_of_ble_eq_true rfl) (Nat.le_of_ble_eq_true rfl) rfl ⟨Nat.le_of_ble_eq_true rfl, Nat.le_of_ble_eq_true rfl, Nat.le_of_ble_eq_true rfl, Nat.le_of_ble_eq_true rfl, Nat.le_of_ble_eq_true rfl⟩ rfl (m_piecesOf g1 hc1 (by omega) hR1 (i := i) (by omega)) (fun v9 h9 p9 => ?_)
                      obtain ⟨e1, e2⟩ := p9
                      subst e2
                      replace e1 := e1.symm
                      subst e1
                      change RN 222 190 _ _ _ 0 0 _
                      dsimp only [Option.toList, List.cons_append, List.nil_append]
                      refine r_icmp_ge (t := 338) hm rfl rfl (fun c190 => ?_) (fun c190 => ?_)
                      · refine r_iinc hm rfl (hr := (by omega)) (k := ?_)
                        refine r_goto (t := 67) hm rfl (k := ?_)
                        have d0 : d2 = 0 := by omega
                        subst d0
                        have s3 : sm (fun k => if cgk S.1 (S.2.1 q) (S.1.2.2.2 0) ((S.2.1 q).2.2.2 0) 3 i p k = true then (1 : Int) else 0) k 0 = 0 := rfl
                        have s4 : sm (fun k => if cgk S.1 (S.2.1 q) (S.1.2.2.2 0) ((S.2.1 q).2.2.2 0) 4 i p k = true then (1 : Int) else 0) k 0 = 0 := rfl
                        rw [if_neg hl9] at f1
                        rw [if_pos (by unfold fpF ltF at *; omega)] at f2
                        exact ih (d - 1) (by omega) (i + 1) _ _ _ _ _ _ _ _ _ (by omega) (by omega) (by omega) (by omega) (by omega) (by omega) (by omega) (by omega) (by omega) (by omega) (by omega)
                      · refine r_iload hm rfl (k := ?_)
                        refine r_if_eq (t := 338) hm rfl rfl (fun c195 => ?_) (fun c195 => ?_)
                        · exfalso; omega
                        · have hk1 : k < pcs S.1 i := by omega
                          have hz := hok.2.2.1 i k hi (by omega)
                          unfold okPc at hz
                          have w6k := w6 k (by omega)
                          obtain ⟨eq1, eq2⟩ := pcs_eq oky hp2
                          have nmr := @nmn_rng (S.2.1 q) oky p k
                          have gl := sm_go (f := (fun k => if cgk S.1 (S.2.1 q) (S.1.2.2.2 0) ((S.2.1 q).2.2.2 0) 3 i p k = true then (1 : Int) else 0)) (i := k) (d := d2) (by omega)
                          have gm := sm_go (f := (fun k => if cgk S.1 (S.2.1 q) (S.1.2.2.2 0) ((S.2.1 q).2.2.2 0) 4 i p k = true then (1 : Int) else 0)) (i := k) (d := d2) (by omega)
                          try dsimp only at gl gm
                          obtain ⟨cy, ecy⟩ : ∃ cy : Prop, cy = (k < pcs (S.2.1 q) p ∧ (S.2.1 q).2.2.1 0 p k = 1) := ⟨_, rfl⟩
                          have w61 := w6k.1
                          have w62 := w6k.2
                          refine r_aload_n hm rfl (k := ?_)
                          refine r_getR (hm := hm) (hf := rfl) (hd := rfl) (hs := (by first | assumption | exact (g1.1 _).trans rfl)) (hv := (by first | assumption | exact g1.2 _ _ _ rfl | exact hK _ (by omega) | exact hVq.1 | exact M0 _ (by omega) | exact Q0 _ _ (by omega) (by omega) | exact w4 | exact vf | exact w61 | exact w62 | exact yl.1 _ _ (by omega) (by omega))) (k := ?_)
                          refine r_aload_n hm rfl (k := ?_)
                          refine r_iload hm rfl (k := ?_)
                          refine r_iload hm rfl (k := ?_)
                          refine r_callv (j2 := 186) hm rfl rfl rfl rfl rfl rfl (by first | assumption | exact (g1.1 _).trans rfl) (Nat.le_of_ble_eq_true rfl) (Nat.le_of_ble_eq_true rfl) rfl ⟨Nat.le_of_ble_eq_true rfl, Nat.le_of_ble_eq_true rfl, Nat.le_of_ble_eq_true rfl, Nat.le_of_ble_eq_true rfl, Nat.le_of_ble_eq_true rfl⟩ rfl (m_place g1 hc1 (by omega) hR1 (i := i) (k := k) (by omega) (by omega)) (fun v9 h9 p9 => ?_)
                          obtain ⟨e1, e2⟩ := p9
                          subst e2
                          replace e1 := e1.symm
                          subst e1
                          change RN 222 210 _ _ _ 0 0 _
                          dsimp only [Option.toList, List.cons_append, List.nil_append]
                          refine r_iald (hm := hm) (hf := rfl) (hs := (by first | assumption | exact (g1.1 _).trans rfl)) (hi := rfl) (hn := (by omega)) (hv := (by first | assumption | exact g1.2 _ _ _ rfl | exact hK _ (by omega) | exact hVq.1 | exact M0 _ (by omega) | exact Q0 _ _ (by omega) (by omega) | exact w4 | exact vf | exact w61 | exact w62 | exact yl.1 _ _ (by omega) (by omega))) (k := ?_)
                          refine r_iconst hm rfl (k := ?_)
                          refine r_icmp_ne (t := 237) hm rfl rfl (fun c212 => ?_) (fun c212 => ?_)
                          · refine r_iconst hm rfl (k := ?_)
                            refine r_istore hm rfl (k := ?_)
                            refine r_iload hm rfl (k := ?_)
                            refine r_iload hm rfl (k := ?_)
                            refine r_if_eq (t := 289) hm rfl rfl (fun c244 => ?_) (fun c244 => ?_)
                            · refine r_iconst hm rfl (k := ?_)
                              refine r_iadd hm rfl (hr := (by omega)) (k := ?_)
                              refine r_istore hm rfl (k := ?_)
                              refine r_iload hm rfl (k := ?_)
                              refine r_iload hm rfl (k := ?_)
                              refine r_if_eq (t := 328) hm rfl rfl (fun c297 => ?_) (fun c297 => ?_)
                              · refine r_iconst hm rfl (k := ?_)
                                refine r_iadd hm rfl (hr := (by omega)) (k := ?_)
                                refine r_istore hm rfl (k := ?_)
                                refine r_iinc hm rfl (hr := (by omega)) (k := ?_)
                                refine r_goto (t := 182) hm rfl (k := ?_)
                                rw [if_neg (fun z => by unfold cgk at z; rw [decide_eq_true_eq] at z; omega)] at gl
                                rw [if_neg (fun z => by unfold cgk at z; rw [decide_eq_true_eq] at z; omega)] at gm
                                exact ih2 (d2 - 1) (by omega) (k + 1) _ _ _ (by omega) (by omega) (by omega) (by omega) (by omega)
                              · exfalso; omega
                            · exfalso; omega
                          · refine r_aload_n hm rfl (k := ?_)
                            refine r_getR (hm := hm) (hf := rfl) (hd := rfl) (hs := (by first | assumption | exact (g1.1 _).trans rfl)) (hv := (by first | assumption | exact g1.2 _ _ _ rfl | exact hK _ (by omega) | exact hVq.1 | exact M0 _ (by omega) | exact Q0 _ _ (by omega) (by omega) | exact w4 | exact vf | exact w61 | exact w62 | exact yl.1 _ _ (by omega) (by omega))) (k := ?_)
                            refine r_bipush hm rfl (k := ?_)
                            refine r_iload hm rfl (k := ?_)
                            refine r_imul hm rfl (hr := (by omega)) (k := ?_)
                            refine r_iload hm rfl (k := ?_)
                            refine r_iadd hm rfl (hr := (by omega)) (k := ?_)
                            refine r_iald (hm := hm) (hf := rfl) (hs := (by first | assumption | exact (g1.1 _).trans rfl)) (kk := 20 * (S.1.2.1 0 i).toNat + k) (hi := by omega) (hn := (by omega)) (hv := (by first | assumption | exact g1.2 _ _ _ rfl | exact hK _ (by omega) | exact hVq.1 | exact M0 _ (by omega) | exact Q0 _ _ (by omega) (by omega) | exact w4 | exact vf | exact w61 | exact w62 | exact yl.1 _ _ (by omega) (by omega))) (k := ?_)
                            refine r_bipush hm rfl (k := ?_)
                            refine r_icmp_eq (t := 237) hm rfl rfl (fun c230 => ?_) (fun c230 => ?_)
                            · refine r_iconst hm rfl (k := ?_)
                              refine r_istore hm rfl (k := ?_)
                              refine r_iload hm rfl (k := ?_)
                              refine r_iload hm rfl (k := ?_)
                              refine r_if_eq (t := 289) hm rfl rfl (fun c244 => ?_) (fun c244 => ?_)
                              · refine r_iconst hm rfl (k := ?_)
                                refine r_iadd hm rfl (hr := (by omega)) (k := ?_)
                                refine r_istore hm rfl (k := ?_)
                                refine r_iload hm rfl (k := ?_)
                                refine r_iload hm rfl (k := ?_)
                                refine r_if_eq (t := 328) hm rfl rfl (fun c297 => ?_) (fun c297 => ?_)
                                · refine r_iconst hm rfl (k := ?_)
                                  refine r_iadd hm rfl (hr := (by omega)) (k := ?_)
                                  refine r_istore hm rfl (k := ?_)
                                  refine r_iinc hm rfl (hr := (by omega)) (k := ?_)
                                  refine r_goto (t := 182) hm rfl (k := ?_)
                                  rw [if_neg (fun z => by unfold cgk at z; rw [decide_eq_true_eq] at z; rw [if_pos ⟨by omega, z.2.2.1⟩] at w62; omega)] at gl
                                  rw [if_neg (fun z => by unfold cgk at z; rw [decide_eq_true_eq] at z; rw [if_pos ⟨by omega, z.2.2.1⟩] at w62; omega)] at gm
                                  exact ih2 (d2 - 1) (by omega) (k + 1) _ _ _ (by omega) (by omega) (by omega) (by omega) (by omega)
                                · exfalso; omega
                              · exfalso; omega
                            · refine r_iconst hm rfl (k := ?_)
                              refine r_goto (t := 238) hm rfl (k := ?_)
                              refine r_istore hm rfl (k := ?_)
                              refine r_iload hm rfl (k := ?_)
                              refine r_iload hm rfl (k := ?_)
                              refine r_if_eq (t := 289) hm rfl rfl (fun c244 => ?_) (fun c244 => ?_)
                              · exfalso; omega
                              · have hcy : k < pcs (S.2.1 q) p ∧ (S.2.1 q).2.2.1 0 p k = 1 := Decidable.byContradiction (fun z => c230 (if_neg z))
                                rw [if_pos hcy] at w61 w62
                                have qN := m_nameMeant g1 hc1 (by omega) hR1 hok (i := i) (k := k) hi hk1 (by omega)
                                refine r_aload_n hm rfl (k := ?_)
                                refine r_getR (hm := hm) (hf := rfl) (hd := rfl) (hs := (by first | assumption | exact (g1.1 _).trans rfl)) (hv := (by first | assumption | exact g1.2 _ _ _ rfl | exact hK _ (by omega) | exact hVq.1 | exact M0 _ (by omega) | exact Q0 _ _ (by omega) (by omega) | exact w4 | exact vf | exact w61 | exact w62 | exact yl.1 _ _ (by omega) (by omega))) (k := ?_)
                                refine r_bipush hm rfl (k := ?_)
                                refine r_iload hm rfl (k := ?_)
                                refine r_imul hm rfl (hr := (by omega)) (k := ?_)
                                refine r_iload hm rfl (k := ?_)
                                refine r_iadd hm rfl (hr := (by omega)) (k := ?_)
                                refine r_iald (hm := hm) (hf := rfl) (hs := (by first | assumption | exact (g1.1 _).trans rfl)) (kk := 20 * (S.1.2.1 0 i).toNat + k) (hi := by omega) (hn := (by omega)) (hv := (by first | assumption | exact g1.2 _ _ _ rfl | exact hK _ (by omega) | exact hVq.1 | exact M0 _ (by omega) | exact Q0 _ _ (by omega) (by omega) | exact w4 | exact vf | exact w61 | exact w62 | exact yl.1 _ _ (by omega) (by omega))) (k := ?_)
                                refine r_aload_n hm rfl (k := ?_)
                                refine r_getR (hm := hm) (hf := rfl) (hd := rfl) (hs := (by first | assumption | exact (g1.1 _).trans rfl)) (hv := (by first | assumption | exact g1.2 _ _ _ rfl | exact hK _ (by omega) | exact hVq.1 | exact M0 _ (by omega) | exact Q0 _ _ (by omega) (by omega) | exact w4 | exact vf | exact w61 | exact w62 | exact yl.1 _ _ (by omega) (by omega))) (k := ?_)
                                refine r_sipush hm rfl (k := ?_)
                                refine r_aload_n hm rfl (k := ?_)
                                refine r_getI (hm := hm) (hf := rfl) (hd := rfl) (hs := (by first | assumption | exact (g1.1 _).trans rfl)) (hv := (by first | assumption | exact g1.2 _ _ _ rfl | exact hK _ (by omega) | exact hVq.1 | exact M0 _ (by omega) | exact Q0 _ _ (by omega) (by omega) | exact w4 | exact vf | exact w61 | exact w62 | exact yl.1 _ _ (by omega) (by omega))) (k := ?_)
                                refine r_imul hm rfl (hr := (by omega)) (k := ?_)
                                refine r_bipush hm rfl (k := ?_)
                                refine r_iload hm rfl (k := ?_)
                                refine r_imul hm rfl (hr := (by omega)) (k := ?_)
                                refine r_iadd hm rfl (hr := (by omega)) (k := ?_)
                                refine r_iload hm rfl (k := ?_)
                                refine r_iadd hm rfl (hr := (by omega)) (k := ?_)
                                refine r_iald (hm := hm) (hf := rfl) (hs := (by first | assumption | exact (g1.1 _).trans rfl)) (kk := 1200 * fin S.1 (S.1.2.2.2 0) + 20 * i + k) (hi := by omega) (hn := (by omega)) (hv := (by first | assumption | exact g1.2 _ _ _ rfl | exact hK _ (by omega) | exact hVq.1 | exact M0 _ (by omega) | exact Q0 _ _ (by omega) (by omega) | exact w4 | exact vf | exact w61 | exact w62 | exact yl.1 _ _ (by omega) (by omega))) (k := ?_)
                                refine r_icmp_eq (t := 289) hm rfl rfl (fun c282 => ?_) (fun c282 => ?_)
                                · refine r_iconst hm rfl (k := ?_)
                                  refine r_iadd hm rfl (hr := (by omega)) (k := ?_)
                                  refine r_istore hm rfl (k := ?_)
                                  refine r_iload hm rfl (k := ?_)
                                  refine r_iload hm rfl (k := ?_)
                                  refine r_if_eq (t := 328) hm rfl rfl (fun c297 => ?_) (fun c297 => ?_)
                                  · exfalso; omega
                                  · refine r_aload_n hm rfl (k := ?_)
                                    refine r_getR (hm := hm) (hf := rfl) (hd := rfl) (hs := (by first | assumption | exact (g1.1 _).trans rfl)) (hv := (by first | assumption | exact g1.2 _ _ _ rfl | exact hK _ (by omega) | exact hVq.1 | exact M0 _ (by omega) | exact Q0 _ _ (by omega) (by omega) | exact w4 | exact vf | exact w61 | exact w62 | exact yl.1 _ _ (by omega) (by omega))) (k := ?_)
                                    refine r_bipush hm rfl (k := ?_)
                                    refine r_iload hm rfl (k := ?_)
                                    refine r_imul hm rfl (hr := (by omega)) (k := ?_)
                                    refine r_iload hm rfl (k := ?_)
                                    refine r_iadd hm rfl (hr := (by omega)) (k := ?_)
                                    refine r_iald (hm := hm) (hf := rfl) (hs := (by first | assumption | exact (g1.1 _).trans rfl)) (kk := 20 * (S.1.2.1 0 i).toNat + k) (hi := by omega) (hn := (by omega)) (hv := (by first | assumption | exact g1.2 _ _ _ rfl | exact hK _ (by omega) | exact hVq.1 | exact M0 _ (by omega) | exact Q0 _ _ (by omega) (by omega) | exact w4 | exact vf | exact w61 | exact w62 | exact yl.1 _ _ (by omega) (by omega))) (k := ?_)
                                    refine r_aload_n hm rfl (k := ?_)
                                    refine r_iload hm rfl (k := ?_)
                                    refine r_iload hm rfl (k := ?_)
                                    refine r_callv (j2 := 224) hm rfl rfl rfl rfl rfl rfl (by first | assumption | exact (g1.1 _).trans rfl) (Nat.le_of_ble_eq_true rfl) (Nat.le_of_ble_eq_true rfl) rfl ⟨Nat.le_of_ble_eq_true rfl, Nat.le_of_ble_eq_true rfl, Nat.le_of_ble_eq_true rfl, Nat.le_of_ble_eq_true rfl, Nat.le_of_ble_eq_true rfl⟩ rfl (qN) (fun v9 h9 p9 => ?_)
                                    obtain ⟨e1, e2⟩ := p9
                                    subst e2
                                    replace e1 := e1.symm
                                    subst e1
                                    change RN 222 321 _ _ _ 0 0 _
                                    dsimp only [Option.toList, List.cons_append, List.nil_append]
                                    refine r_icmp_eq (t := 328) hm rfl rfl (fun c321 => ?_) (fun c321 => ?_)
                                    · refine r_iconst hm rfl (k := ?_)
                                      refine r_iadd hm rfl (hr := (by omega)) (k := ?_)
                                      refine r_istore hm rfl (k := ?_)
                                      refine r_iinc hm rfl (hr := (by omega)) (k := ?_)
                                      refine r_goto (t := 182) hm rfl (k := ?_)
                                      rw [if_neg (fun z => by unfold cgk at z; rw [decide_eq_true_eq] at z; have z4 := z.2.2.2; rw [if_pos rfl] at z4; unfold ltF at w61 z4; omega)] at gl
                                      rw [if_neg (fun z => by unfold cgk at z; rw [decide_eq_true_eq] at z; have z4 := z.2.2.2; rw [if_neg (by omega)] at z4; omega)] at gm
                                      exact ih2 (d2 - 1) (by omega) (k + 1) _ _ _ (by omega) (by omega) (by omega) (by omega) (by omega)
                                    · refine r_iconst hm rfl (k := ?_)
                                      refine r_goto (t := 329) hm rfl (k := ?_)
                                      refine r_iadd hm rfl (hr := (by omega)) (k := ?_)
                                      refine r_istore hm rfl (k := ?_)
                                      refine r_iinc hm rfl (hr := (by omega)) (k := ?_)
                                      refine r_goto (t := 182) hm rfl (k := ?_)
                                      rw [if_neg (fun z => by unfold cgk at z; rw [decide_eq_true_eq] at z; have z4 := z.2.2.2; rw [if_pos rfl] at z4; unfold ltF at w61 z4; omega)] at gl
                                      rw [if_pos (by unfold cgk; rw [decide_eq_true_eq]; exact ⟨by omega, by omega, hcy.2, by rw [if_neg (by omega)]; omega⟩)] at gm
                                      exact ih2 (d2 - 1) (by omega) (k + 1) _ _ _ (by omega) (by omega) (by omega) (by omega) (by omega)
                                · refine r_iconst hm rfl (k := ?_)
                                  refine r_goto (t := 290) hm rfl (k := ?_)
                                  refine r_iadd hm rfl (hr := (by omega)) (k := ?_)
                                  refine r_istore hm rfl (k := ?_)
                                  refine r_iload hm rfl (k := ?_)
                                  refine r_iload hm rfl (k := ?_)
                                  refine r_if_eq (t := 328) hm rfl rfl (fun c297 => ?_) (fun c297 => ?_)
                                  · exfalso; omega
                                  · refine r_aload_n hm rfl (k := ?_)
                                    refine r_getR (hm := hm) (hf := rfl) (hd := rfl) (hs := (by first | assumption | exact (g1.1 _).trans rfl)) (hv := (by first | assumption | exact g1.2 _ _ _ rfl | exact hK _ (by omega) | exact hVq.1 | exact M0 _ (by omega) | exact Q0 _ _ (by omega) (by omega) | exact w4 | exact vf | exact w61 | exact w62 | exact yl.1 _ _ (by omega) (by omega))) (k := ?_)
                                    refine r_bipush hm rfl (k := ?_)
                                    refine r_iload hm rfl (k := ?_)
                                    refine r_imul hm rfl (hr := (by omega)) (k := ?_)
                                    refine r_iload hm rfl (k := ?_)
                                    refine r_iadd hm rfl (hr := (by omega)) (k := ?_)
                                    refine r_iald (hm := hm) (hf := rfl) (hs := (by first | assumption | exact (g1.1 _).trans rfl)) (kk := 20 * (S.1.2.1 0 i).toNat + k) (hi := by omega) (hn := (by omega)) (hv := (by first | assumption | exact g1.2 _ _ _ rfl | exact hK _ (by omega) | exact hVq.1 | exact M0 _ (by omega) | exact Q0 _ _ (by omega) (by omega) | exact w4 | exact vf | exact w61 | exact w62 | exact yl.1 _ _ (by omega) (by omega))) (k := ?_)
                                    refine r_aload_n hm rfl (k := ?_)
                                    refine r_iload hm rfl (k := ?_)
                                    refine r_iload hm rfl (k := ?_)
                                    refine r_callv (j2 := 224) hm rfl rfl rfl rfl rfl rfl (by first | assumption | exact (g1.1 _).trans rfl) (Nat.le_of_ble_eq_true rfl) (Nat.le_of_ble_eq_true rfl) rfl ⟨Nat.le_of_ble_eq_true rfl, Nat.le_of_ble_eq_true rfl, Nat.le_of_ble_eq_true rfl, Nat.le_of_ble_eq_true rfl, Nat.le_of_ble_eq_true rfl⟩ rfl (qN) (fun v9 h9 p9 => ?_)
                                    obtain ⟨e1, e2⟩ := p9
                                    subst e2
                                    replace e1 := e1.symm
                                    subst e1
                                    change RN 222 321 _ _ _ 0 0 _
                                    dsimp only [Option.toList, List.cons_append, List.nil_append]
                                    refine r_icmp_eq (t := 328) hm rfl rfl (fun c321 => ?_) (fun c321 => ?_)
                                    · refine r_iconst hm rfl (k := ?_)
                                      refine r_iadd hm rfl (hr := (by omega)) (k := ?_)
                                      refine r_istore hm rfl (k := ?_)
                                      refine r_iinc hm rfl (hr := (by omega)) (k := ?_)
                                      refine r_goto (t := 182) hm rfl (k := ?_)
                                      rw [if_pos (by unfold cgk; rw [decide_eq_true_eq]; exact ⟨by omega, by omega, hcy.2, by rw [if_pos rfl]; unfold ltF at w61 ⊢; omega⟩)] at gl
                                      rw [if_neg (fun z => by unfold cgk at z; rw [decide_eq_true_eq] at z; have z4 := z.2.2.2; rw [if_neg (by omega)] at z4; omega)] at gm
                                      exact ih2 (d2 - 1) (by omega) (k + 1) _ _ _ (by omega) (by omega) (by omega) (by omega) (by omega)
                                    · refine r_iconst hm rfl (k := ?_)
                                      refine r_goto (t := 329) hm rfl (k := ?_)
                                      refine r_iadd hm rfl (hr := (by omega)) (k := ?_)
                                      refine r_istore hm rfl (k := ?_)
                                      refine r_iinc hm rfl (hr := (by omega)) (k := ?_)
                                      refine r_goto (t := 182) hm rfl (k := ?_)
                                      rw [if_pos (by unfold cgk; rw [decide_eq_true_eq]; exact ⟨by omega, by omega, hcy.2, by rw [if_pos rfl]; unfold ltF at w61 ⊢; omega⟩)] at gl
                                      rw [if_pos (by unfold cgk; rw [decide_eq_true_eq]; exact ⟨by omega, by omega, hcy.2, by rw [if_neg (by omega)]; omega⟩)] at gm
                                      exact ih2 (d2 - 1) (by omega) (k + 1) _ _ _ (by omega) (by omega) (by omega) (by omega) (by omega)
                    · refine r_iconst hm rfl (k := ?_)
                      refine r_goto (t := 176) hm rfl (k := ?_)
                      refine r_iadd hm rfl (hr := (by omega)) (k := ?_)
                      refine r_istore hm rfl (k := ?_)
                      refine r_iconst hm rfl (k := ?_)
                      refine r_istore hm rfl (k := ?_)
                      suffices LP : ∀ (d2 k : Nat) (l2 m2 : Int) (z12 : Option Vl), k + d2 = pcs S.1 i → (0 ≤ l2 ∧ l2 ≤ 20 * i + k) → (0 ≤ m2 ∧ m2 ≤ 20 * i + k) → l2 + sm (fun k => if cgk S.1 (S.2.1 q) (S.1.2.2.2 0) ((S.2.1 q).2.2.2 0) 3 i p k = true then (1 : Int) else 0) k d2 = le + cgc S.1 (S.2.1 q) (S.1.2.2.2 0) ((S.2.1 q).2.2.2 0) 3 i p → m2 + sm (fun k => if cgk S.1 (S.2.1 q) (S.1.2.2.2 0) ((S.2.1 q).2.2.2 0) 4 i p k = true then (1 : Int) else 0) k d2 = me + cgc S.1 (S.2.1 q) (S.1.2.2.2 0) ((S.2.1 q).2.2.2 0) 4 i p → RN 222 182 [some (.inr (.inr (some 1085))), some (.inl (q : Int)), some (.inl w), some (.inl (al + -1)), some (.inl (nu + 1)), some (.inl (ot + 1)), some (.inl l2), some (.inl m2), some (.inl (i : Int)), some (.inl (S.1.2.1 0 i)), some (.inl 1), some (.inl (k : Int)), z12] [] hB 0 0 (fun v h2 => InvM L h2 S ∧ FxM h h2 ∧ v = some (.inl (aBeside S (q : Int) w))) from LP (pcs S.1 i) 0 le me _ (by omega) (by omega) (by omega) (by unfold cgc; omega) (by unfold cgc; omega)
                      refine fun d2 => Nat.strongRecOn d2 (fun d2 ih2 => ?_)
                      intro k l2 m2 z12 hd2 bl bm rl rm
                      refine r_iload hm rfl (k := ?_)
                      refine r_aload_n hm rfl (k := ?_)
                      refine r_iload hm rfl (k := ?_)
                      refine r_callv (j2 := 181) hm rfl rfl rfl rfl rfl rfl (by first | assumption | exact (g1.1 _).trans rfl) (Nat.le_of_ble_eq_true rfl) (Nat.le_of_ble_eq_true rfl) rfl ⟨Nat.le_of_ble_eq_true rfl, Nat.le_of_ble_eq_true rfl, Nat.le_of_ble_eq_true rfl, Nat.le_of_ble_eq_true rfl, Nat.le_of_ble_eq_true rfl⟩ rfl (m_piecesOf g1 hc1 (by omega) hR1 (i := i) (by omega)) (fun v9 h9 p9 => ?_)
                      obtain ⟨e1, e2⟩ := p9
                      subst e2
                      replace e1 := e1.symm
                      subst e1
                      change RN 222 190 _ _ _ 0 0 _
                      dsimp only [Option.toList, List.cons_append, List.nil_append]
                      refine r_icmp_ge (t := 338) hm rfl rfl (fun c190 => ?_) (fun c190 => ?_)
                      · refine r_iinc hm rfl (hr := (by omega)) (k := ?_)
                        refine r_goto (t := 67) hm rfl (k := ?_)
                        have d0 : d2 = 0 := by omega
                        subst d0
                        have s3 : sm (fun k => if cgk S.1 (S.2.1 q) (S.1.2.2.2 0) ((S.2.1 q).2.2.2 0) 3 i p k = true then (1 : Int) else 0) k 0 = 0 := rfl
                        have s4 : sm (fun k => if cgk S.1 (S.2.1 q) (S.1.2.2.2 0) ((S.2.1 q).2.2.2 0) 4 i p k = true then (1 : Int) else 0) k 0 = 0 := rfl
                        rw [if_neg hl9] at f1
                        rw [if_neg (by unfold fpF ltF at *; omega)] at f2
                        exact ih (d - 1) (by omega) (i + 1) _ _ _ _ _ _ _ _ _ (by omega) (by omega) (by omega) (by omega) (by omega) (by omega) (by omega) (by omega) (by omega) (by omega) (by omega)
                      · refine r_iload hm rfl (k := ?_)
                        refine r_if_eq (t := 338) hm rfl rfl (fun c195 => ?_) (fun c195 => ?_)
                        · exfalso; omega
                        · have hk1 : k < pcs S.1 i := by omega
                          have hz := hok.2.2.1 i k hi (by omega)
                          unfold okPc at hz
                          have w6k := w6 k (by omega)
                          obtain ⟨eq1, eq2⟩ := pcs_eq oky hp2
                          have nmr := @nmn_rng (S.2.1 q) oky p k
                          have gl := sm_go (f := (fun k => if cgk S.1 (S.2.1 q) (S.1.2.2.2 0) ((S.2.1 q).2.2.2 0) 3 i p k = true then (1 : Int) else 0)) (i := k) (d := d2) (by omega)
                          have gm := sm_go (f := (fun k => if cgk S.1 (S.2.1 q) (S.1.2.2.2 0) ((S.2.1 q).2.2.2 0) 4 i p k = true then (1 : Int) else 0)) (i := k) (d := d2) (by omega)
                          try dsimp only at gl gm
                          obtain ⟨cy, ecy⟩ : ∃ cy : Prop, cy = (k < pcs (S.2.1 q) p ∧ (S.2.1 q).2.2.1 0 p k = 1) := ⟨_, rfl⟩
                          have w61 := w6k.1
                          have w62 := w6k.2
                          refine r_aload_n hm rfl (k := ?_)
                          refine r_getR (hm := hm) (hf := rfl) (hd := rfl) (hs := (by first | assumption | exact (g1.1 _).trans rfl)) (hv := (by first | assumption | exact g1.2 _ _ _ rfl | exact hK _ (by omega) | exact hVq.1 | exact M0 _ (by omega) | exact Q0 _ _ (by omega) (by omega) | exact w4 | exact vf | exact w61 | exact w62 | exact yl.1 _ _ (by omega) (by omega))) (k := ?_)
                          refine r_aload_n hm rfl (k := ?_)
                          refine r_iload hm rfl (k := ?_)
                          refine r_iload hm rfl (k := ?_)
                          refine r_callv (j2 := 186) hm rfl rfl rfl rfl rfl rfl (by first | assumption | exact (g1.1 _).trans rfl) (Nat.le_of_ble_eq_true rfl) (Nat.le_of_ble_eq_true rfl) rfl ⟨Nat.le_of_ble_eq_true rfl, Nat.le_of_ble_eq_true rfl, Nat.le_of_ble_eq_true rfl, Nat.le_of_ble_eq_true rfl, Nat.le_of_ble_eq_true rfl⟩ rfl (m_place g1 hc1 (by omega) hR1 (i := i) (k := k) (by omega) (by omega)) (fun v9 h9 p9 => ?_)
                          obtain ⟨e1, e2⟩ := p9
                          subst e2
                          replace e1 := e1.symm
                          subst e1
                          change RN 222 210 _ _ _ 0 0 _
                          dsimp only [Option.toList, List.cons_append, List.nil_append]
                          refine r_iald (hm := hm) (hf := rfl) (hs := (by first | assumption | exact (g1.1 _).trans rfl)) (hi := rfl) (hn := (by omega)) (hv := (by first | assumption | exact g1.2 _ _ _ rfl | exact hK _ (by omega) | exact hVq.1 | exact M0 _ (by omega) | exact Q0 _ _ (by omega) (by omega) | exact w4 | exact vf | exact w61 | exact w62 | exact yl.1 _ _ (by omega) (by omega))) (k := ?_)
                          refine r_iconst hm rfl (k := ?_)
                          refine r_icmp_ne (t := 237) hm rfl rfl (fun c212 => ?_) (fun c212 => ?_)
                          · refine r_iconst hm rfl (k := ?_)
                            refine r_istore hm rfl (k := ?_)
                            refine r_iload hm rfl (k := ?_)
                            refine r_iload hm rfl (k := ?_)
                            refine r_if_eq (t := 289) hm rfl rfl (fun c244 => ?_) (fun c244 => ?_)
                            · refine r_iconst hm rfl (k := ?_)
                              refine r_iadd hm rfl (hr := (by omega)) (k := ?_)
                              refine r_istore hm rfl (k := ?_)
                              refine r_iload hm rfl (k := ?_)
                              refine r_iload hm rfl (k := ?_)
                              refine r_if_eq (t := 328) hm rfl rfl (fun c297 => ?_) (fun c297 => ?_)
                              · refine r_iconst hm rfl (k := ?_)
                                refine r_iadd hm rfl (hr := (by omega)) (k := ?_)
                                refine r_istore hm rfl (k := ?_)
                                refine r_iinc hm rfl (hr := (by omega)) (k := ?_)
                                refine r_goto (t := 182) hm rfl (k := ?_)
                                rw [if_neg (fun z => by unfold cgk at z; rw [decide_eq_true_eq] at z; omega)] at gl
                                rw [if_neg (fun z => by unfold cgk at z; rw [decide_eq_true_eq] at z; omega)] at gm
                                exact ih2 (d2 - 1) (by omega) (k + 1) _ _ _ (by omega) (by omega) (by omega) (by omega) (by omega)
                              · exfalso; omega
                            · exfalso; omega
                          · refine r_aload_n hm rfl (k := ?_)
                            refine r_getR (hm := hm) (hf := rfl) (hd := rfl) (hs := (by first | assumption | exact (g1.1 _).trans rfl)) (hv := (by first | assumption | exact g1.2 _ _ _ rfl | exact hK _ (by omega) | exact hVq.1 | exact M0 _ (by omega) | exact Q0 _ _ (by omega) (by omega) | exact w4 | exact vf | exact w61 | exact w62 | exact yl.1 _ _ (by omega) (by omega))) (k := ?_)
                            refine r_bipush hm rfl (k := ?_)
                            refine r_iload hm rfl (k := ?_)
                            refine r_imul hm rfl (hr := (by omega)) (k := ?_)
                            refine r_iload hm rfl (k := ?_)
                            refine r_iadd hm rfl (hr := (by omega)) (k := ?_)
                            refine r_iald (hm := hm) (hf := rfl) (hs := (by first | assumption | exact (g1.1 _).trans rfl)) (kk := 20 * (S.1.2.1 0 i).toNat + k) (hi := by omega) (hn := (by omega)) (hv := (by first | assumption | exact g1.2 _ _ _ rfl | exact hK _ (by omega) | exact hVq.1 | exact M0 _ (by omega) | exact Q0 _ _ (by omega) (by omega) | exact w4 | exact vf | exact w61 | exact w62 | exact yl.1 _ _ (by omega) (by omega))) (k := ?_)
                            refine r_bipush hm rfl (k := ?_)
                            refine r_icmp_eq (t := 237) hm rfl rfl (fun c230 => ?_) (fun c230 => ?_)
                            · refine r_iconst hm rfl (k := ?_)
                              refine r_istore hm rfl (k := ?_)
                              refine r_iload hm rfl (k := ?_)
                              refine r_iload hm rfl (k := ?_)
                              refine r_if_eq (t := 289) hm rfl rfl (fun c244 => ?_) (fun c244 => ?_)
                              · refine r_iconst hm rfl (k := ?_)
                                refine r_iadd hm rfl (hr := (by omega)) (k := ?_)
                                refine r_istore hm rfl (k := ?_)
                                refine r_iload hm rfl (k := ?_)
                                refine r_iload hm rfl (k := ?_)
                                refine r_if_eq (t := 328) hm rfl rfl (fun c297 => ?_) (fun c297 => ?_)
                                · refine r_iconst hm rfl (k := ?_)
                                  refine r_iadd hm rfl (hr := (by omega)) (k := ?_)
                                  refine r_istore hm rfl (k := ?_)
                                  refine r_iinc hm rfl (hr := (by omega)) (k := ?_)
                                  refine r_goto (t := 182) hm rfl (k := ?_)
                                  rw [if_neg (fun z => by unfold cgk at z; rw [decide_eq_true_eq] at z; rw [if_pos ⟨by omega, z.2.2.1⟩] at w62; omega)] at gl
                                  rw [if_neg (fun z => by unfold cgk at z; rw [decide_eq_true_eq] at z; rw [if_pos ⟨by omega, z.2.2.1⟩] at w62; omega)] at gm
                                  exact ih2 (d2 - 1) (by omega) (k + 1) _ _ _ (by omega) (by omega) (by omega) (by omega) (by omega)
                                · exfalso; omega
                              · exfalso; omega
                            · refine r_iconst hm rfl (k := ?_)
                              refine r_goto (t := 238) hm rfl (k := ?_)
                              refine r_istore hm rfl (k := ?_)
                              refine r_iload hm rfl (k := ?_)
                              refine r_iload hm rfl (k := ?_)
                              refine r_if_eq (t := 289) hm rfl rfl (fun c244 => ?_) (fun c244 => ?_)
                              · exfalso; omega
                              · have hcy : k < pcs (S.2.1 q) p ∧ (S.2.1 q).2.2.1 0 p k = 1 := Decidable.byContradiction (fun z => c230 (if_neg z))
                                rw [if_pos hcy] at w61 w62
                                have qN := m_nameMeant g1 hc1 (by omega) hR1 hok (i := i) (k := k) hi hk1 (by omega)
                                refine r_aload_n hm rfl (k := ?_)
                                refine r_getR (hm := hm) (hf := rfl) (hd := rfl) (hs := (by first | assumption | exact (g1.1 _).trans rfl)) (hv := (by first | assumption | exact g1.2 _ _ _ rfl | exact hK _ (by omega) | exact hVq.1 | exact M0 _ (by omega) | exact Q0 _ _ (by omega) (by omega) | exact w4 | exact vf | exact w61 | exact w62 | exact yl.1 _ _ (by omega) (by omega))) (k := ?_)
                                refine r_bipush hm rfl (k := ?_)
                                refine r_iload hm rfl (k := ?_)
                                refine r_imul hm rfl (hr := (by omega)) (k := ?_)
                                refine r_iload hm rfl (k := ?_)
                                refine r_iadd hm rfl (hr := (by omega)) (k := ?_)
                                refine r_iald (hm := hm) (hf := rfl) (hs := (by first | assumption | exact (g1.1 _).trans rfl)) (kk := 20 * (S.1.2.1 0 i).toNat + k) (hi := by omega) (hn := (by omega)) (hv := (by first | assumption | exact g1.2 _ _ _ rfl | exact hK _ (by omega) | exact hVq.1 | exact M0 _ (by omega) | exact Q0 _ _ (by omega) (by omega) | exact w4 | exact vf | exact w61 | exact w62 | exact yl.1 _ _ (by omega) (by omega))) (k := ?_)
                                refine r_aload_n hm rfl (k := ?_)
                                refine r_getR (hm := hm) (hf := rfl) (hd := rfl) (hs := (by first | assumption | exact (g1.1 _).trans rfl)) (hv := (by first | assumption | exact g1.2 _ _ _ rfl | exact hK _ (by omega) | exact hVq.1 | exact M0 _ (by omega) | exact Q0 _ _ (by omega) (by omega) | exact w4 | exact vf | exact w61 | exact w62 | exact yl.1 _ _ (by omega) (by omega))) (k := ?_)
                                refine r_sipush hm rfl (k := ?_)
                                refine r_aload_n hm rfl (k := ?_)
                                refine r_getI (hm := hm) (hf := rfl) (hd := rfl) (hs := (by first | assumption | exact (g1.1 _).trans rfl)) (hv := (by first | assumption | exact g1.2 _ _ _ rfl | exact hK _ (by omega) | exact hVq.1 | exact M0 _ (by omega) | exact Q0 _ _ (by omega) (by omega) | exact w4 | exact vf | exact w61 | exact w62 | exact yl.1 _ _ (by omega) (by omega))) (k := ?_)
                                refine r_imul hm rfl (hr := (by omega)) (k := ?_)
                                refine r_bipush hm rfl (k := ?_)
                                refine r_iload hm rfl (k := ?_)
                                refine r_imul hm rfl (hr := (by omega)) (k := ?_)
                                refine r_iadd hm rfl (hr := (by omega)) (k := ?_)
                                refine r_iload hm rfl (k := ?_)
                                refine r_iadd hm rfl (hr := (by omega)) (k := ?_)
                                refine r_iald (hm := hm) (hf := rfl) (hs := (by first | assumption | exact (g1.1 _).trans rfl)) (kk := 1200 * fin S.1 (S.1.2.2.2 0) + 20 * i + k) (hi := by omega) (hn := (by omega)) (hv := (by first | assumption | exact g1.2 _ _ _ rfl | exact hK _ (by omega) | exact hVq.1 | exact M0 _ (by omega) | exact Q0 _ _ (by omega) (by omega) | exact w4 | exact vf | exact w61 | exact w62 | exact yl.1 _ _ (by omega) (by omega))) (k := ?_)
                                refine r_icmp_eq (t := 289) hm rfl rfl (fun c282 => ?_) (fun c282 => ?_)
                                · refine r_iconst hm rfl (k := ?_)
                                  refine r_iadd hm rfl (hr := (by omega)) (k := ?_)
                                  refine r_istore hm rfl (k := ?_)
                                  refine r_iload hm rfl (k := ?_)
                                  refine r_iload hm rfl (k := ?_)
                                  refine r_if_eq (t := 328) hm rfl rfl (fun c297 => ?_) (fun c297 => ?_)
                                  · exfalso; omega
                                  · refine r_aload_n hm rfl (k := ?_)
                                    refine r_getR (hm := hm) (hf := rfl) (hd := rfl) (hs := (by first | assumption | exact (g1.1 _).trans rfl)) (hv := (by first | assumption | exact g1.2 _ _ _ rfl | exact hK _ (by omega) | exact hVq.1 | exact M0 _ (by omega) | exact Q0 _ _ (by omega) (by omega) | exact w4 | exact vf | exact w61 | exact w62 | exact yl.1 _ _ (by omega) (by omega))) (k := ?_)
                                    refine r_bipush hm rfl (k := ?_)
                                    refine r_iload hm rfl (k := ?_)
                                    refine r_imul hm rfl (hr := (by omega)) (k := ?_)
                                    refine r_iload hm rfl (k := ?_)
                                    refine r_iadd hm rfl (hr := (by omega)) (k := ?_)
                                    refine r_iald (hm := hm) (hf := rfl) (hs := (by first | assumption | exact (g1.1 _).trans rfl)) (kk := 20 * (S.1.2.1 0 i).toNat + k) (hi := by omega) (hn := (by omega)) (hv := (by first | assumption | exact g1.2 _ _ _ rfl | exact hK _ (by omega) | exact hVq.1 | exact M0 _ (by omega) | exact Q0 _ _ (by omega) (by omega) | exact w4 | exact vf | exact w61 | exact w62 | exact yl.1 _ _ (by omega) (by omega))) (k := ?_)
                                    refine r_aload_n hm rfl (k := ?_)
                                    refine r_iload hm rfl (k := ?_)
                                    refine r_iload hm rfl (k := ?_)
                                    refine r_callv (j2 := 224) hm rfl rfl rfl rfl rfl rfl (by first | assumption | exact (g1.1 _).trans rfl) (Nat.le_of_ble_eq_true rfl) (Nat.le_of_ble_eq_true rfl) rfl ⟨Nat.le_of_ble_eq_true rfl, Nat.le_of_ble_eq_true rfl, Nat.le_of_ble_eq_true rfl, Nat.le_of_ble_eq_true rfl, Nat.le_of_ble_eq_true rfl⟩ rfl (qN) (fun v9 h9 p9 => ?_)
                                    obtain ⟨e1, e2⟩ := p9
                                    subst e2
                                    replace e1 := e1.symm
                                    subst e1
                                    change RN 222 321 _ _ _ 0 0 _
                                    dsimp only [Option.toList, List.cons_append, List.nil_append]
                                    refine r_icmp_eq (t := 328) hm rfl rfl (fun c321 => ?_) (fun c321 => ?_)
                                    · refine r_iconst hm rfl (k := ?_)
                                      refine r_iadd hm rfl (hr := (by omega)) (k := ?_)
                                      refine r_istore hm rfl (k := ?_)
                                      refine r_iinc hm rfl (hr := (by omega)) (k := ?_)
                                      refine r_goto (t := 182) hm rfl (k := ?_)
                                      rw [if_neg (fun z => by unfold cgk at z; rw [decide_eq_true_eq] at z; have z4 := z.2.2.2; rw [if_pos rfl] at z4; unfold ltF at w61 z4; omega)] at gl
                                      rw [if_neg (fun z => by unfold cgk at z; rw [decide_eq_true_eq] at z; have z4 := z.2.2.2; rw [if_neg (by omega)] at z4; omega)] at gm
                                      exact ih2 (d2 - 1) (by omega) (k + 1) _ _ _ (by omega) (by omega) (by omega) (by omega) (by omega)
                                    · refine r_iconst hm rfl (k := ?_)
                                      refine r_goto (t := 329) hm rfl (k := ?_)
                                      refine r_iadd hm rfl (hr := (by omega)) (k := ?_)
                                      refine r_istore hm rfl (k := ?_)
                                      refine r_iinc hm rfl (hr := (by omega)) (k := ?_)
                                      refine r_goto (t := 182) hm rfl (k := ?_)
                                      rw [if_neg (fun z => by unfold cgk at z; rw [decide_eq_true_eq] at z; have z4 := z.2.2.2; rw [if_pos rfl] at z4; unfold ltF at w61 z4; omega)] at gl
                                      rw [if_pos (by unfold cgk; rw [decide_eq_true_eq]; exact ⟨by omega, by omega, hcy.2, by rw [if_neg (by omega)]; omega⟩)] at gm
                                      exact ih2 (d2 - 1) (by omega) (k + 1) _ _ _ (by omega) (by omega) (by omega) (by omega) (by omega)
                                · refine r_iconst hm rfl (k := ?_)
                                  refine r_goto (t := 290) hm rfl (k := ?_)
                                  refine r_iadd hm rfl (hr := (by omega)) (k := ?_)
                                  refine r_istore hm rfl (k := ?_)
                                  refine r_iload hm rfl (k := ?_)
                                  refine r_iload hm rfl (k := ?_)
                                  refine r_if_eq (t := 328) hm rfl rfl (fun c297 => ?_) (fun c297 => ?_)
                                  · exfalso; omega
                                  · refine r_aload_n hm rfl (k := ?_)
                                    refine r_getR (hm := hm) (hf := rfl) (hd := rfl) (hs := (by first | assumption | exact (g1.1 _).trans rfl)) (hv := (by first | assumption | exact g1.2 _ _ _ rfl | exact hK _ (by omega) | exact hVq.1 | exact M0 _ (by omega) | exact Q0 _ _ (by omega) (by omega) | exact w4 | exact vf | exact w61 | exact w62 | exact yl.1 _ _ (by omega) (by omega))) (k := ?_)
                                    refine r_bipush hm rfl (k := ?_)
                                    refine r_iload hm rfl (k := ?_)
                                    refine r_imul hm rfl (hr := (by omega)) (k := ?_)
                                    refine r_iload hm rfl (k := ?_)
                                    refine r_iadd hm rfl (hr := (by omega)) (k := ?_)
                                    refine r_iald (hm := hm) (hf := rfl) (hs := (by first | assumption | exact (g1.1 _).trans rfl)) (kk := 20 * (S.1.2.1 0 i).toNat + k) (hi := by omega) (hn := (by omega)) (hv := (by first | assumption | exact g1.2 _ _ _ rfl | exact hK _ (by omega) | exact hVq.1 | exact M0 _ (by omega) | exact Q0 _ _ (by omega) (by omega) | exact w4 | exact vf | exact w61 | exact w62 | exact yl.1 _ _ (by omega) (by omega))) (k := ?_)
                                    refine r_aload_n hm rfl (k := ?_)
                                    refine r_iload hm rfl (k := ?_)
                                    refine r_iload hm rfl (k := ?_)
                                    refine r_callv (j2 := 224) hm rfl rfl rfl rfl rfl rfl (by first | assumption | exact (g1.1 _).trans rfl) (Nat.le_of_ble_eq_true rfl) (Nat.le_of_ble_eq_true rfl) rfl ⟨Nat.le_of_ble_eq_true rfl, Nat.le_of_ble_eq_true rfl, Nat.le_of_ble_eq_true rfl, Nat.le_of_ble_eq_true rfl, Nat.le_of_ble_eq_true rfl⟩ rfl (qN) (fun v9 h9 p9 => ?_)
                                    obtain ⟨e1, e2⟩ := p9
                                    subst e2
                                    replace e1 := e1.symm
                                    subst e1
                                    change RN 222 321 _ _ _ 0 0 _
                                    dsimp only [Option.toList, List.cons_append, List.nil_append]
                                    refine r_icmp_eq (t := 328) hm rfl rfl (fun c321 => ?_) (fun c321 => ?_)
                                    · refine r_iconst hm rfl (k := ?_)
                                      refine r_iadd hm rfl (hr := (by omega)) (k := ?_)
                                      refine r_istore hm rfl (k := ?_)
                                      refine r_iinc hm rfl (hr := (by omega)) (k := ?_)
                                      refine r_goto (t := 182) hm rfl (k := ?_)
                                      rw [if_pos (by unfold cgk; rw [decide_eq_true_eq]; exact ⟨by omega, by omega, hcy.2, by rw [if_pos rfl]; unfold ltF at w61 ⊢; omega⟩)] at gl
                                      rw [if_neg (fun z => by unfold cgk at z; rw [decide_eq_true_eq] at z; have z4 := z.2.2.2; rw [if_neg (by omega)] at z4; omega)] at gm
                                      exact ih2 (d2 - 1) (by omega) (k + 1) _ _ _ (by omega) (by omega) (by omega) (by omega) (by omega)
                                    · refine r_iconst hm rfl (k := ?_)
                                      refine r_goto (t := 329) hm rfl (k := ?_)
                                      refine r_iadd hm rfl (hr := (by omega)) (k := ?_)
                                      refine r_istore hm rfl (k := ?_)
                                      refine r_iinc hm rfl (hr := (by omega)) (k := ?_)
                                      refine r_goto (t := 182) hm rfl (k := ?_)
                                      rw [if_pos (by unfold cgk; rw [decide_eq_true_eq]; exact ⟨by omega, by omega, hcy.2, by rw [if_pos rfl]; unfold ltF at w61 ⊢; omega⟩)] at gl
                                      rw [if_pos (by unfold cgk; rw [decide_eq_true_eq]; exact ⟨by omega, by omega, hcy.2, by rw [if_neg (by omega)]; omega⟩)] at gm
                                      exact ih2 (d2 - 1) (by omega) (k + 1) _ _ _ (by omega) (by omega) (by omega) (by omega) (by omega)
      · refine r_sipush hm rfl (k := ?_)
        refine r_ireturn hm rfl rfl (by rfl) (Nat.le_of_ble_eq_true rfl) (Nat.le_of_ble_eq_true rfl) ?_
        refine ⟨I, Sm.refl, ?_⟩
        unfold aBeside
        simp only [Int.toNat_natCast]
        rw [if_neg (by omega), if_pos (by omega)]
    · refine r_sipush hm rfl (k := ?_)
      refine r_ireturn hm rfl rfl (by rfl) (Nat.le_of_ble_eq_true rfl) (Nat.le_of_ble_eq_true rfl) ?_
      refine ⟨I, Sm.refl, ?_⟩
      unfold aBeside
      simp only [Int.toNat_natCast]
      rw [if_pos (by omega)]
