/-! knotted: the reference -/
def knP (x : Tx) (o k : Nat) : Bool := decide (0 ≤ dsN (edg x) o k 62 0 ∧ k ≠ o ∧ 0 ≤ dsN (edg x) k o 62 0)
def aKnot (S : St) (i : Int) : Int := if 0 ≤ i ∧ i < (S.1.1 : Int) then ((cnt (knP S.1 (secN S.1 i.toNat)) 61 : Nat) : Int) else -1001
theorem cnt_f {p : Nat → Bool} {k : Nat} (h : p k = false) : cnt p (k + 1) = cnt p k := by show cnt p k + (if p k then 1 else 0) = _; rw [h]; rfl
theorem cnt_t {p : Nat → Bool} {k : Nat} (h : p k = true) : cnt p (k + 1) = cnt p k + 1 := by show cnt p k + (if p k then 1 else 0) = _; rw [h]; rfl
set_option maxRecDepth 8000 in
theorem m_knotted {L : Nat} {h : Hp} {S : St} (I : InvM L h S) (ok : okS S) {i : Int} (hi0 : inI i) : RN 217 0 [some (.inr (.inr (some 1085))), some (.inl i), none, none, none] [] h 0 0 (fun v h2 => InvM L h2 S ∧ FxM h h2 ∧ v = some (.inl (aKnot S i))) := by
  have hm : mrec 217 = some nM217 := rfl
  obtain ⟨g, hR, hV, hK, hG, hL, hB, hFl⟩ := id I
  have hok := ok.1
  obtain ⟨M0, M1, M2, M3, M4, Q0, Q1, Q2, S0, N0, N1⟩ := hR.use
  have n60 := hok.1
  have g1 := g
  have hR1 := hR
  have hH : 8 ≤ S.1.2.2.2 0 ∧ S.1.2.2.2 0 ≤ 60 := by have := hok.2.2.2.2; unfold okStl at this; omega
  refine r_aload_n hm rfl (k := ?_)
  refine r_iload_n hm rfl (k := ?_)
  refine r_callv (j2 := 165) hm rfl rfl rfl rfl rfl rfl (by first | assumption | exact (g1.1 _).trans rfl) (Nat.le_of_ble_eq_true rfl) (Nat.le_of_ble_eq_true rfl) rfl ⟨Nat.le_of_ble_eq_true rfl, Nat.le_of_ble_eq_true rfl, Nat.le_of_ble_eq_true rfl, Nat.le_of_ble_eq_true rfl, Nat.le_of_ble_eq_true rfl⟩ rfl (m_isItem g hR hi0) (fun v9 h9 p9 => ?_)
  obtain ⟨e1, e2⟩ := p9
  subst e2
  replace e1 := e1.symm
  subst e1
  obtain ⟨b9, eb9, hb9⟩ := ite01 (p := 0 ≤ i ∧ i < (S.1.1 : Int))
  rw [eb9]
  change RN 217 5 _ _ _ 0 0 _
  dsimp only [Option.toList, List.cons_append, List.nil_append]
  refine r_if_ne (t := 12) hm rfl rfl (fun c5 => ?_) (fun c5 => ?_)
  · obtain ⟨q, rfl⟩ := Int.eq_ofNat_of_zero_le (show 0 ≤ i by omega)
    refine r_aload_n hm rfl (k := ?_)
    refine r_iconst hm rfl (k := ?_)
    refine r_putI (hm := hm) (hf := rfl) (hd := rfl) (hs := (by first | assumption | exact (g1.1 _).trans rfl)) (hfin := Or.inl rfl) (hz := fun q9 => absurd q9 (by decide)) (k := ?_)
    refine RN.abs (fun h1 => Sm regM h h1 ∧ h1.2.1 1085 12 = ((3 : Nat) : Int)) ⟨Sm.put Sm.refl (by unfold regM; omega), putI_eq⟩ (fun h1 H9 => ?_)
    obtain ⟨S1, hc1⟩ := H9
    replace g1 := S1.gg g
    replace hR1 := S1.repM (fun a k z => regM_R z) hR
    clear M0 M1 M2 M3 M4 Q0 Q1 Q2 S0 N0 N1
    obtain ⟨M0, M1, M2, M3, M4, Q0, Q1, Q2, S0, N0, N1⟩ := hR1.use
    refine r_aload_n hm rfl (k := ?_)
    refine r_callv (j2 := 173) hm rfl rfl rfl rfl rfl rfl (by first | assumption | exact (g1.1 _).trans rfl) (Nat.le_of_ble_eq_true rfl) (Nat.le_of_ble_eq_true rfl) rfl ⟨Nat.le_of_ble_eq_true rfl, Nat.le_of_ble_eq_true rfl, Nat.le_of_ble_eq_true rfl, Nat.le_of_ble_eq_true rfl, Nat.le_of_ble_eq_true rfl⟩ rfl (m_findNumbers g1 hc1 (by omega) hR1 hok) (fun v9 hA p9 => ?_)
    obtain ⟨SA, nA, e1⟩ := p9
    subst e1
    replace hc1 : hA.2.1 1085 12 = ((3 : Nat) : Int) := (SA.2.2 _ _ (by unfold regF; omega)).trans hc1
    replace S1 : Sm regM h hA := S1.trans (SA.mono (fun a k z => by unfold regF at z; unfold regM; omega))
    replace g1 := S1.gg g
    replace hR1 := S1.repM (fun a k z => regM_R z) hR
    clear M0 M1 M2 M3 M4 Q0 Q1 Q2 S0 N0 N1
    obtain ⟨M0, M1, M2, M3, M4, Q0, Q1, Q2, S0, N0, N1⟩ := hR1.use
    change RN 217 21 _ _ _ 0 0 _
    dsimp only [Option.toList, List.nil_append]
    obtain ⟨s1, s2⟩ := secN_eq hok (i := q) (by omega)
    have nQ := (nA q (by omega)).1
    have qF := m_findFar (src := secN S.1 q) g1 hc1 hR1 hok nA s2
    refine r_aload_n hm rfl (k := ?_)
    refine r_getR (hm := hm) (hf := rfl) (hd := rfl) (hs := (by first | assumption | exact (g1.1 _).trans rfl)) (hv := (by first | assumption | exact g1.2 _ _ _ rfl | exact nQ | exact eF _ (by omega) | exact eCk | exact eDo)) (k := ?_)
    refine r_iload_n hm rfl (k := ?_)
    refine r_iald (hm := hm) (hf := rfl) (hs := (by first | assumption | exact (g1.1 _).trans rfl)) (kk := q) (hi := by omega) (hn := (by omega)) (hv := (by first | assumption | exact g1.2 _ _ _ rfl | exact nQ | exact eF _ (by omega) | exact eCk | exact eDo)) (k := ?_)
    refine r_iconst hm rfl (k := ?_)
    refine r_iadd hm rfl (hr := (by omega)) (k := ?_)
    rw [← s1]
    refine r_istore_n hm rfl (k := ?_)
    refine r_aload_n hm rfl (k := ?_)
    refine r_iload_n hm rfl (k := ?_)
    refine r_callv (j2 := 216) hm rfl rfl rfl rfl rfl rfl (by first | assumption | exact (g1.1 _).trans rfl) (Nat.le_of_ble_eq_true rfl) (Nat.le_of_ble_eq_true rfl) rfl ⟨Nat.le_of_ble_eq_true rfl, Nat.le_of_ble_eq_true rfl, Nat.le_of_ble_eq_true rfl, Nat.le_of_ble_eq_true rfl, Nat.le_of_ble_eq_true rfl⟩ rfl (qF) (fun v9 hB p9 => ?_)
    obtain ⟨SB, eB, e1⟩ := p9
    subst e1
    change RN 217 35 _ _ _ 0 0 _
    dsimp only [Option.toList, List.nil_append]
    refine r_iconst hm rfl (k := ?_)
    refine r_istore_n hm rfl (k := ?_)
    have gA := g1
    have hcA := hc1
    have hRA := hR1
    clear g1 hc1 hR1 M0 M1 M2 M3 M4 Q0 Q1 Q2 S0 N0 N1
    suffices LP : ∀ (d k : Nat) (h1 : Hp), k + d = 61 → Sm (fun a _ => a = 1116 ∨ a = 1117) hA h1 → (∀ v, v < 61 → h1.2.1 1116 v = dsN (edg S.1) (secN S.1 q) v 62 0) → (∀ v, v < k → h1.2.1 1117 v = if 0 ≤ dsN (edg S.1) (secN S.1 q) v 62 0 then 1 else 0) → RN 217 37 [some (.inr (.inr (some 1085))), some (.inl ((q : Nat) : Int)), some (.inl ((secN S.1 q : Nat) : Int)), some (.inl (k : Int)), none] [] h1 0 0 (fun v h2 => InvM L h2 S ∧ FxM h h2 ∧ v = some (.inl (aKnot S ((q : Nat) : Int)))) from LP 61 0 _ (by omega) (SB.mono (fun a k z => Or.inl z)) eB (fun v hv => absurd hv (Nat.not_lt_zero _))
    refine fun d => Nat.strongRecOn d (fun d ih => ?_)
    intro k h1 hd SC eF eC
    have g1 := SC.gg gA
    have hc1 := (SC.2.2 1085 12 (by omega)).trans hcA
    refine r_iload_n hm rfl (k := ?_)
    refine r_bipush hm rfl (k := ?_)
    refine r_icmp_ge (t := 69) hm rfl rfl (fun c40 => ?_) (fun c40 => ?_)
    · refine r_iconst hm rfl (k := ?_)
      refine r_istore_n hm rfl (k := ?_)
      refine r_iconst hm rfl (k := ?_)
      refine r_istore hm rfl (k := ?_)
      suffices LP2 : ∀ (d k : Nat) (h1 : Hp), k + d = 61 → Sm (fun a _ => a = 1116 ∨ a = 1117) hA h1 → (∀ v, v < 61 → h1.2.1 1117 v = if 0 ≤ dsN (edg S.1) (secN S.1 q) v 62 0 then 1 else 0) → RN 217 74 [some (.inr (.inr (some 1085))), some (.inl ((q : Nat) : Int)), some (.inl ((secN S.1 q : Nat) : Int)), some (.inl ((cnt (knP S.1 (secN S.1 q)) k : Nat) : Int)), some (.inl (k : Int))] [] h1 0 0 (fun v h2 => InvM L h2 S ∧ FxM h h2 ∧ v = some (.inl (aKnot S ((q : Nat) : Int)))) from LP2 61 0 _ (by omega) SC (fun v hv => eC v (by omega))
      clear ih g1 hc1 SC eF eC
      refine fun d => Nat.strongRecOn d (fun d ih => ?_)
      intro k h1 hd SC eC
      have hcl := cnt_le (knP S.1 (secN S.1 q)) k
      have g1 := SC.gg gA
      have hc1 := (SC.2.2 1085 12 (by omega)).trans hcA
      have hR1 := SC.repM (fun a k z => by omega) hRA
      have nB : NmM h1 S.1 S.1.1 := fun r hr => by
        obtain ⟨y1, y2, y3, y4, y5⟩ := nA r hr
        exact ⟨(SC.2.2 _ _ (by omega)).trans y1, (SC.2.2 _ _ (by omega)).trans y2, (SC.2.2 _ _ (by omega)).trans y3, (SC.2.2 _ _ (by omega)).trans y4, fun k z1 z2 => (SC.2.2 _ _ (by omega)).trans (y5 k z1 z2)⟩
      refine r_iload hm rfl (k := ?_)
      refine r_bipush hm rfl (k := ?_)
      refine r_icmp_ge (t := 126) hm rfl rfl (fun c78 => ?_) (fun c78 => ?_)
      · refine r_iload_n hm rfl (k := ?_)
        refine r_ireturn hm rfl rfl (by rfl) (Nat.le_of_ble_eq_true rfl) (Nat.le_of_ble_eq_true rfl) ?_
        refine ⟨(I.sm S1 (fun a k z => by unfold regM at z; unfold idleM; omega)).sm SC (fun a k z => by unfold idleM; omega), (S1.mono (fun a k z => by unfold regM at z; omega)).trans (SC.mono (fun a k z => by omega)), ?_⟩
        have hk : k = 61 := by omega
        subst hk
        unfold aKnot
        rw [if_pos (by omega), Int.toNat_natCast]
      · have eCk := eC k (by omega)
        obtain ⟨b7, eb7, hb7⟩ := ite01 (p := 0 ≤ dsN (edg S.1) (secN S.1 q) k 62 0)
        rw [eb7] at eCk
        refine r_aload_n hm rfl (k := ?_)
        refine r_getR (hm := hm) (hf := rfl) (hd := rfl) (hs := (by first | assumption | exact (g1.1 _).trans rfl)) (hv := (by first | assumption | exact g1.2 _ _ _ rfl | exact nQ | exact eF _ (by omega) | exact eCk | exact eDo)) (k := ?_)
        refine r_iload hm rfl (k := ?_)
        refine r_bald (hm := hm) (hf := rfl) (hs := (by first | assumption | exact (g1.1 _).trans rfl)) (hkd := by decide) (kk := k) (hi := by omega) (hn := (by omega)) (hv := (by first | assumption | exact g1.2 _ _ _ rfl | exact nQ | exact eF _ (by omega) | exact eCk | exact eDo)) (k := ?_)
        refine r_if_eq (t := 120) hm rfl rfl (fun c88 => ?_) (fun c88 => ?_)
        · refine r_iinc hm rfl (hr := (by omega)) (k := ?_)
          refine r_goto (t := 74) hm rfl (k := ?_)
          have hP : knP S.1 (secN S.1 q) k = false := decide_eq_false (fun z => by have z1 := z.1; have z2 := z.2.1; omega)
          have := ih (d - 1) (by omega) (k + 1) h1 (by omega) SC eC
          rw [cnt_f hP] at this
          exact this
        · refine r_iload hm rfl (k := ?_)
          refine r_iload_n hm rfl (k := ?_)
          refine r_icmp_eq (t := 120) hm rfl rfl (fun c94 => ?_) (fun c94 => ?_)
          · refine r_iinc hm rfl (hr := (by omega)) (k := ?_)
            refine r_goto (t := 74) hm rfl (k := ?_)
            have hP : knP S.1 (secN S.1 q) k = false := decide_eq_false (fun z => by have z1 := z.1; have z2 := z.2.1; omega)
            have := ih (d - 1) (by omega) (k + 1) h1 (by omega) SC eC
            rw [cnt_f hP] at this
            exact this
          · refine r_aload_n hm rfl (k := ?_)
            refine r_iload hm rfl (k := ?_)
            refine r_callv (j2 := 216) hm rfl rfl rfl rfl rfl rfl (by first | assumption | exact (g1.1 _).trans rfl) (Nat.le_of_ble_eq_true rfl) (Nat.le_of_ble_eq_true rfl) rfl ⟨Nat.le_of_ble_eq_true rfl, Nat.le_of_ble_eq_true rfl, Nat.le_of_ble_eq_true rfl, Nat.le_of_ble_eq_true rfl, Nat.le_of_ble_eq_true rfl⟩ rfl (m_findFar (src := k) g1 hc1 hR1 hok nB (by omega)) (fun v9 hD p9 => ?_)
            obtain ⟨SD, eD, e1⟩ := p9
            subst e1
            replace g1 := SD.gg g1
            have eDo := eD (secN S.1 q) s2
            change RN 217 103 _ _ _ 0 0 _
            dsimp only [Option.toList, List.nil_append]
            refine r_iload_n hm rfl (k := ?_)
            refine r_aload_n hm rfl (k := ?_)
            refine r_getR (hm := hm) (hf := rfl) (hd := rfl) (hs := (by first | assumption | exact (g1.1 _).trans rfl)) (hv := (by first | assumption | exact g1.2 _ _ _ rfl | exact nQ | exact eF _ (by omega) | exact eCk | exact eDo)) (k := ?_)
            refine r_iload_n hm rfl (k := ?_)
            refine r_iald (hm := hm) (hf := rfl) (hs := (by first | assumption | exact (g1.1 _).trans rfl)) (kk := secN S.1 q) (hi := by omega) (hn := (by omega)) (hv := (by first | assumption | exact g1.2 _ _ _ rfl | exact nQ | exact eF _ (by omega) | exact eCk | exact eDo)) (k := ?_)
            refine r_if_lt (t := 117) hm rfl rfl (fun c110 => ?_) (fun c110 => ?_)
            · refine r_iconst hm rfl (k := ?_)
              refine r_iadd hm rfl (hr := (by omega)) (k := ?_)
              refine r_istore_n hm rfl (k := ?_)
              refine r_iinc hm rfl (hr := (by omega)) (k := ?_)
              refine r_goto (t := 74) hm rfl (k := ?_)
              have hP : knP S.1 (secN S.1 q) k = false := decide_eq_false (fun z => by have z1 := z.2.2; omega)
              have := ih (d - 1) (by omega) (k + 1) hD (by omega) (SC.trans (SD.mono (fun a k z => Or.inl z))) (fun v hv => (SD.2.2 1117 v (by omega)).trans (eC v hv))
              rw [cnt_f hP] at this
              (rw [Int.add_zero]; exact this)
            · refine r_iconst hm rfl (k := ?_)
              refine r_goto (t := 118) hm rfl (k := ?_)
              refine r_iadd hm rfl (hr := (by omega)) (k := ?_)
              refine r_istore_n hm rfl (k := ?_)
              refine r_iinc hm rfl (hr := (by omega)) (k := ?_)
              refine r_goto (t := 74) hm rfl (k := ?_)
              have hP : knP S.1 (secN S.1 q) k = true := decide_eq_true ⟨by omega, by omega, by omega⟩
              have := ih (d - 1) (by omega) (k + 1) hD (by omega) (SC.trans (SD.mono (fun a k z => Or.inl z))) (fun v hv => (SD.2.2 1117 v (by omega)).trans (eC v hv))
              rw [cnt_t hP] at this
              exact this
    · refine r_aload_n hm rfl (k := ?_)
      refine r_getR (hm := hm) (hf := rfl) (hd := rfl) (hs := (by first | assumption | exact (g1.1 _).trans rfl)) (hv := (by first | assumption | exact g1.2 _ _ _ rfl | exact nQ | exact eF _ (by omega) | exact eCk | exact eDo)) (k := ?_)
      refine r_iload_n hm rfl (k := ?_)
      refine r_aload_n hm rfl (k := ?_)
      refine r_getR (hm := hm) (hf := rfl) (hd := rfl) (hs := (by first | assumption | exact (g1.1 _).trans rfl)) (hv := (by first | assumption | exact g1.2 _ _ _ rfl | exact nQ | exact eF _ (by omega) | exact eCk | exact eDo)) (k := ?_)
      refine r_iload_n hm rfl (k := ?_)
      refine r_iald (hm := hm) (hf := rfl) (hs := (by first | assumption | exact (g1.1 _).trans rfl)) (kk := k) (hi := by omega) (hn := (by omega)) (hv := (by first | assumption | exact g1.2 _ _ _ rfl | exact nQ | exact eF _ (by omega) | exact eCk | exact eDo)) (k := ?_)
      refine r_if_lt (t := 61) hm rfl rfl (fun c54 => ?_) (fun c54 => ?_)
      · refine r_iconst hm rfl (k := ?_)
        refine r_bast (hm := hm) (hf := rfl) (hz := by omega) (h28 := (by omega)) (hs := (by first | assumption | exact (g1.1 _).trans rfl)) (kk := k) (hi := by omega) (hn := (by omega)) (k := ?_)
        refine r_iinc hm rfl (hr := (by omega)) (k := ?_)
        refine r_goto (t := 37) hm rfl (k := ?_)
        exact ih (d - 1) (by omega) (k + 1) _ (by omega) (Sm.put SC (Or.inr rfl)) (fun v hv => by rw [putI_ne (by omega)]; exact eF v hv) (fun v hv => by
          by_cases e : v = k
          · subst e; rw [putI_eq, if_neg (by omega)]
          · rw [putI_ne (by omega)]; exact eC v (by omega))
      · refine r_iconst hm rfl (k := ?_)
        refine r_goto (t := 62) hm rfl (k := ?_)
        refine r_bast (hm := hm) (hf := rfl) (hz := by omega) (h28 := (by omega)) (hs := (by first | assumption | exact (g1.1 _).trans rfl)) (kk := k) (hi := by omega) (hn := (by omega)) (k := ?_)
        refine r_iinc hm rfl (hr := (by omega)) (k := ?_)
        refine r_goto (t := 37) hm rfl (k := ?_)
        exact ih (d - 1) (by omega) (k + 1) _ (by omega) (Sm.put SC (Or.inr rfl)) (fun v hv => by rw [putI_ne (by omega)]; exact eF v hv) (fun v hv => by
          by_cases e : v = k
          · subst e; rw [putI_eq, if_pos (by omega)]
          · rw [putI_ne (by omega)]; exact eC v (by omega))
  · refine r_sipush hm rfl (k := ?_)
    refine r_ireturn hm rfl rfl (by rfl) (Nat.le_of_ble_eq_true rfl) (Nat.le_of_ble_eq_true rfl) ?_
    refine ⟨I, Sm.refl, ?_⟩
    unfold aKnot
    rw [if_neg (by omega)]
