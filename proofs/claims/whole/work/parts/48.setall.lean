/-! the reference: setAll -/
def regM (a k : Nat) : Prop := (a = 1085 ∧ (k = 12 ∨ (28 ≤ k ∧ k ≤ 31) ∨ (35 ≤ k ∧ k ≤ 37))) ∨ (1097 ≤ a ∧ a ≤ 1115)
/-- the reference stands for slot c, x, set at height H -/
def SetM (h : Hp) (c : Nat) (x : Tx) (H : Int) : Prop := h.2.1 1085 12 = (c : Int) ∧ h.2.1 1085 35 = ocm x H (fin x H) ∧ h.2.1 1085 36 = (fin x H : Int) ∧ h.2.1 1085 37 = prd x H (fin x H) ∧ (∀ r, r ≤ fin x H → h.2.1 1111 r = pgs x H r) ∧ PgM h H (psf x H (ltR x H (fin x H))) ∧ LyM h x (ltR x H (fin x H)) x.1 (ppf x H (ltR x H (fin x H))) ∧ PmK h 1103 (1200 * fin x H) x (ltR x H (fin x H)) x.1 0 ∧ PmK h 1106 0 x (nct x (ppf x H (ltR x H (fin x H)))) x.1 0 ∧ NmM h x x.1
theorem LyM.same {S : Nat → Nat → Prop} {h h2 : Hp} {x : Tx} {lt : LT} {i : Nat} {pp : Nat → Nat → Int} (y : LyM h x lt i pp) (m : Sm S h h2) (hS : ∀ a k, S a k → a ≠ 1109 ∧ a ≠ 1104 ∧ a ≠ 1105) : LyM h2 x lt i pp := by
  refine ⟨fun q hq => ?_, fun q k hq hk => ?_⟩
  · rw [m.2.2 _ _ (fun z => by have := hS _ _ z; omega)]; exact y.1 q hq
  · rw [m.2.2 _ _ (fun z => by have := hS _ _ z; omega), m.2.2 _ _ (fun z => by have := hS _ _ z; omega)]; exact y.2 q k hq hk
theorem NmM.keep {S : Nat → Nat → Prop} {h h2 : Hp} {x : Tx} {i : Nat} (m : NmM h x i) (p : Sm S h h2) (hS : ∀ a k, S a k → a < 1097 ∨ 1101 < a) : NmM h2 x i := by
  intro q hq
  obtain ⟨m1, m2, m3, m4, m5⟩ := m q hq
  refine ⟨?_, ?_, ?_, ?_, fun k hk hl => ?_⟩
  · rw [p.2.2 _ _ (fun z => by have := hS _ _ z; omega)]; exact m1
  · rw [p.2.2 _ _ (fun z => by have := hS _ _ z; omega)]; exact m2
  · rw [p.2.2 _ _ (fun z => by have := hS _ _ z; omega)]; exact m3
  · rw [p.2.2 _ _ (fun z => by have := hS _ _ z; omega)]; exact m4
  · rw [p.2.2 _ _ (fun z => by have := hS _ _ z; omega)]; exact m5 k hk hl
def BsM (h : Hp) (x : Tx) (H : Int) (r : Nat) : Prop := h.2.1 1085 36 = (r : Int) ∧ h.2.1 1085 29 = H ∧ NmM h x x.1 ∧ (∀ j, j ≤ r → PmK h 1103 (1200 * j) x (ltR x H j) x.1 0) ∧ ∀ j, j < r → h.2.1 1111 j = pgs x H j
theorem BsM.same {S : Nat → Nat → Prop} {h h2 : Hp} {x : Tx} {H : Int} {r : Nat} (y : BsM h x H r) (m : Sm S h h2) (hS : ∀ a k, S a k → (a = 1085 → k ≠ 36 ∧ k ≠ 29) ∧ (a < 1097 ∨ 1101 < a) ∧ a ≠ 1103 ∧ (a = 1111 → r ≤ k)) : BsM h2 x H r := by
  obtain ⟨b1, b2, b3, b4, b5⟩ := y
  refine ⟨?_, ?_, b3.keep m (fun a k z => (hS _ _ z).2.1), fun j hj => (b4 j hj).same m (fun a k z => (hS _ _ z).2.2.1), fun j hj => ?_⟩
  · rw [m.2.2 _ _ (fun z => ((hS _ _ z).1 rfl).1 rfl)]; exact b1
  · rw [m.2.2 _ _ (fun z => ((hS _ _ z).1 rfl).2 rfl)]; exact b2
  · rw [m.2.2 _ _ (fun z => by have := (hS _ _ z).2.2.2 rfl; omega)]; exact b5 j hj
theorem regM_R {a k : Nat} (z : regM a k) : a < 1086 ∨ 1096 < a := by unfold regM at z; omega
set_option maxRecDepth 8000 in
theorem m_setAll {L : Nat} {h : Hp} {c : Nat} {x : Tx} {ln H : Int} (g : GG L h) (hc3 : c ≤ 3) (hR : RepM h c x) (hok : okTx x) (hHd : H = if ln = 0 then x.2.2.2 0 else ln) (hH : 8 ≤ H ∧ H ≤ 60) : RN 185 0 [some (.inr (.inr (some 1085))), some (.inl (c : Int)), some (.inl ln), none, none, none] [] h 0 0 (fun v h2 => Sm regM h h2 ∧ SetM h2 c x H ∧ v = none) := by
  have hm : mrec 185 = some nM185 := rfl
  have n60 := hok.1
  have g1 := g
  refine r_aload_n hm rfl (k := ?_)
  refine r_iload_n hm rfl (k := ?_)
  refine r_putI (hm := hm) (hf := rfl) (hd := rfl) (hs := (by first | assumption | exact (g1.1 _).trans rfl)) (hfin := Or.inl rfl) (hz := fun q9 => absurd q9 (by decide)) (k := ?_)
  refine RN.abs (fun h1 => Sm regM h h1 ∧ h1.2.1 1085 12 = (c : Int)) ⟨Sm.put Sm.refl (by unfold regM; omega), putI_eq⟩ (fun h1 H9 => ?_)
  obtain ⟨S1, hc1⟩ := H9
  have g1 := S1.gg g
  have hR1 := S1.repM (fun a k z => regM_R z) hR
  obtain ⟨M0, M1, M2, M3, M4, Q0, Q1, Q2, S0, N0, N1⟩ := hR1.use
  have qF := m_findNumbers g1 hc1 hc3 hR1 hok
  refine r_aload_n hm rfl (k := ?_)
  refine r_callv (j2 := 173) hm rfl rfl rfl rfl rfl rfl (by first | assumption | exact (g1.1 _).trans rfl) (Nat.le_of_ble_eq_true rfl) (Nat.le_of_ble_eq_true rfl) rfl ⟨Nat.le_of_ble_eq_true rfl, Nat.le_of_ble_eq_true rfl, Nat.le_of_ble_eq_true rfl, Nat.le_of_ble_eq_true rfl, Nat.le_of_ble_eq_true rfl⟩ rfl (qF) (fun v9 hA p9 => ?_)
  obtain ⟨SA, nA, e1⟩ := p9
  subst e1
  replace hc1 : hA.2.1 1085 12 = (c : Int) := (SA.2.2 _ _ (by unfold regF; omega)).trans hc1
  replace S1 : Sm regM h hA := S1.trans (SA.mono (fun a k z => by unfold regF at z; unfold regM; omega))
  have g1 := S1.gg g
  have hR1 := S1.repM (fun a k z => regM_R z) hR
  obtain ⟨M0, M1, M2, M3, M4, Q0, Q1, Q2, S0, N0, N1⟩ := hR1.use
  change RN 185 9 _ _ _ 0 0 _
  dsimp only [Option.toList, List.nil_append]
  refine r_aload_n hm rfl (k := ?_)
  refine r_iload_n hm rfl (k := ?_)
  refine r_if_ne (t := 22) hm rfl rfl (fun c11 => ?_) (fun c11 => ?_)
  · refine r_iload_n hm rfl (k := ?_)
    refine r_putI (hm := hm) (hf := rfl) (hd := rfl) (hs := (by first | assumption | exact (g1.1 _).trans rfl)) (hfin := Or.inl rfl) (hz := fun q9 => absurd q9 (by decide)) (k := ?_)
    have eHH : ln = H := by rw [hHd]; first | (rw [if_pos (by omega)]; done) | (rw [if_neg (by omega)]; done)
    refine RN.abs (fun h1 => Sm regM h h1 ∧ h1.2.1 1085 12 = (c : Int) ∧ h1.2.1 1085 29 = H ∧ NmM h1 x x.1) ⟨Sm.put S1 (by unfold regM; omega), (putI_ne (by omega)).trans hc1, putI_eq.trans eHH, nA.keep (Sm.put (S := fun a k => a = 1085) Sm.refl rfl) (fun a k z => by omega)⟩ (fun h1 H9 => ?_)
    clear hc1 S1 nA
    obtain ⟨S1, hc1, e29, nA⟩ := H9
    have g1 := S1.gg g
    have hR1 := S1.repM (fun a k z => regM_R z) hR
    obtain ⟨M0, M1, M2, M3, M4, Q0, Q1, Q2, S0, N0, N1⟩ := hR1.use
    refine r_iconst hm rfl (k := ?_)
    refine r_istore_n hm rfl (k := ?_)
    suffices LP : ∀ (d i : Nat) (h1 : Hp) (z4 z5 : Option Vl), i + d = x.1 → Sm regM h h1 → h1.2.1 1085 12 = (c : Int) → h1.2.1 1085 29 = H → NmM h1 x x.1 → PmK h1 1103 0 x (lt0 x) i 0 → RN 185 28 [some (.inr (.inr (some 1085))), some (.inl (c : Int)), some (.inl ln), some (.inl (i : Int)), z4, z5] [] h1 0 0 (fun v h2 => Sm regM h h2 ∧ SetM h2 c x H ∧ v = none) from LP x.1 0 _ _ _ (by omega) S1 hc1 e29 nA PmK.nil
    clear hc1 S1 nA e29
    refine fun d => Nat.strongRecOn d (fun d ih => ?_)
    intro i h1 z4 z5 hd S1 hc1 e29 nA pL
    have g1 := S1.gg g
    have hR1 := S1.repM (fun a k z => regM_R z) hR
    obtain ⟨M0, M1, M2, M3, M4, Q0, Q1, Q2, S0, N0, N1⟩ := hR1.use
    refine r_iload_n hm rfl (k := ?_)
    refine r_aload_n hm rfl (k := ?_)
    refine r_getR (hm := hm) (hf := rfl) (hd := rfl) (hs := (by first | assumption | exact (g1.1 _).trans rfl)) (hv := (by first | exact putI_eq | exact (putI_ne (by omega)).trans (by first | exact putI_eq | exact (putI_ne (by omega)).trans (by first | exact putI_eq | exact (putI_ne (by omega)).trans (by first | exact putI_eq | exact (putI_ne (by omega)).trans (by first | first | assumption | exact g1.2 _ _ _ rfl | exact Q0 _ _ (by omega) (by omega) | exact Q1 _ _ (by omega) (by omega) | exact Q2 _ _ (by omega) (by omega) | exact b36) | first | assumption | exact g1.2 _ _ _ rfl | exact Q0 _ _ (by omega) (by omega) | exact Q1 _ _ (by omega) (by omega) | exact Q2 _ _ (by omega) (by omega) | exact b36) | first | assumption | exact g1.2 _ _ _ rfl | exact Q0 _ _ (by omega) (by omega) | exact Q1 _ _ (by omega) (by omega) | exact Q2 _ _ (by omega) (by omega) | exact b36) | first | assumption | exact g1.2 _ _ _ rfl | exact Q0 _ _ (by omega) (by omega) | exact Q1 _ _ (by omega) (by omega) | exact Q2 _ _ (by omega) (by omega) | exact b36) | first | assumption | exact g1.2 _ _ _ rfl | exact Q0 _ _ (by omega) (by omega) | exact Q1 _ _ (by omega) (by omega) | exact Q2 _ _ (by omega) (by omega) | exact b36)) (k := ?_)
    refine r_aload_n hm rfl (k := ?_)
    refine r_getI (hm := hm) (hf := rfl) (hd := rfl) (hs := (by first | assumption | exact (g1.1 _).trans rfl)) (hv := (by first | exact putI_eq | exact (putI_ne (by omega)).trans (by first | exact putI_eq | exact (putI_ne (by omega)).trans (by first | exact putI_eq | exact (putI_ne (by omega)).trans (by first | exact putI_eq | exact (putI_ne (by omega)).trans (by first | first | assumption | exact g1.2 _ _ _ rfl | exact Q0 _ _ (by omega) (by omega) | exact Q1 _ _ (by omega) (by omega) | exact Q2 _ _ (by omega) (by omega) | exact b36) | first | assumption | exact g1.2 _ _ _ rfl | exact Q0 _ _ (by omega) (by omega) | exact Q1 _ _ (by omega) (by omega) | exact Q2 _ _ (by omega) (by omega) | exact b36) | first | assumption | exact g1.2 _ _ _ rfl | exact Q0 _ _ (by omega) (by omega) | exact Q1 _ _ (by omega) (by omega) | exact Q2 _ _ (by omega) (by omega) | exact b36) | first | assumption | exact g1.2 _ _ _ rfl | exact Q0 _ _ (by omega) (by omega) | exact Q1 _ _ (by omega) (by omega) | exact Q2 _ _ (by omega) (by omega) | exact b36) | first | assumption | exact g1.2 _ _ _ rfl | exact Q0 _ _ (by omega) (by omega) | exact Q1 _ _ (by omega) (by omega) | exact Q2 _ _ (by omega) (by omega) | exact b36)) (k := ?_)
    refine r_iald (hm := hm) (hf := rfl) (hs := (by first | assumption | exact (g1.1 _).trans rfl)) (kk := c) (hi := by omega) (hn := (by omega)) (hv := (by first | exact putI_eq | exact (putI_ne (by omega)).trans (by first | exact putI_eq | exact (putI_ne (by omega)).trans (by first | exact putI_eq | exact (putI_ne (by omega)).trans (by first | exact putI_eq | exact (putI_ne (by omega)).trans (by first | first | assumption | exact g1.2 _ _ _ rfl | exact Q0 _ _ (by omega) (by omega) | exact Q1 _ _ (by omega) (by omega) | exact Q2 _ _ (by omega) (by omega) | exact b36) | first | assumption | exact g1.2 _ _ _ rfl | exact Q0 _ _ (by omega) (by omega) | exact Q1 _ _ (by omega) (by omega) | exact Q2 _ _ (by omega) (by omega) | exact b36) | first | assumption | exact g1.2 _ _ _ rfl | exact Q0 _ _ (by omega) (by omega) | exact Q1 _ _ (by omega) (by omega) | exact Q2 _ _ (by omega) (by omega) | exact b36) | first | assumption | exact g1.2 _ _ _ rfl | exact Q0 _ _ (by omega) (by omega) | exact Q1 _ _ (by omega) (by omega) | exact Q2 _ _ (by omega) (by omega) | exact b36) | first | assumption | exact g1.2 _ _ _ rfl | exact Q0 _ _ (by omega) (by omega) | exact Q1 _ _ (by omega) (by omega) | exact Q2 _ _ (by omega) (by omega) | exact b36)) (k := ?_)
    refine r_icmp_ge (t := 123) hm rfl rfl (fun c38 => ?_) (fun c38 => ?_)
    · refine r_aload_n hm rfl (k := ?_)
      refine r_iconst hm rfl (k := ?_)
      refine r_putI (hm := hm) (hf := rfl) (hd := rfl) (hs := (by first | assumption | exact (g1.1 _).trans rfl)) (hfin := Or.inl rfl) (hz := fun q9 => absurd q9 (by decide)) (k := ?_)
      refine r_aload_n hm rfl (k := ?_)
      refine r_iconst hm rfl (k := ?_)
      refine r_putI (hm := hm) (hf := rfl) (hd := rfl) (hs := (by first | assumption | exact (g1.1 _).trans rfl)) (hfin := Or.inl rfl) (hz := fun q9 => absurd q9 (by decide)) (k := ?_)
      refine r_iconst hm rfl (k := ?_)
      refine r_istore_n hm rfl (k := ?_)
      have ei : i = x.1 := by omega
      subst ei
      suffices LP : ∀ (d r : Nat) (h1 : Hp) (z4 z5 : Option Vl), r + d = 11 → Sm regM h h1 → h1.2.1 1085 12 = (c : Int) → BsM h1 x H r → rnd x H (11 - r) r = fin x H → RN 185 135 [some (.inr (.inr (some 1085))), some (.inl (c : Int)), some (.inl ln), some (.inl 1), z4, z5] [] h1 0 0 (fun v h2 => Sm regM h h2 ∧ SetM h2 c x H ∧ v = none) from LP 11 0 _ _ _ rfl (Sm.put (Sm.put S1 (by unfold regM; omega)) (by unfold regM; omega)) ((putI_ne (by omega)).trans ((putI_ne (by omega)).trans hc1)) ⟨(putI_ne (by omega)).trans putI_eq, (putI_ne (by omega)).trans ((putI_ne (by omega)).trans e29), nA.keep (Sm.put (S := fun a k => a = 1085) (Sm.put Sm.refl rfl) rfl) (fun a k z => by omega), fun q hq => by rw [show q = 0 by omega]; exact (pL.ne (by omega)).ne (by omega), fun q hq => absurd hq (Nat.not_lt_zero _)⟩ rfl
      clear hc1 S1 nA e29 pL ih
      refine fun d => Nat.strongRecOn d (fun d ih => ?_)
      intro r h1 z4 z5 hd S1 hc1 bs hfin
      have g1 := S1.gg g
      have hR1 := S1.repM (fun a k z => regM_R z) hR
      obtain ⟨M0, M1, M2, M3, M4, Q0, Q1, Q2, S0, N0, N1⟩ := hR1.use
      obtain ⟨b36, b29, bN, bL, bP⟩ := id bs
      have qR := m_setRound g1 hc1 hc3 hR1 hok (ltR_ok hok r) (r := r) (by omega) (fun q k hq hk => (bL r (Nat.le_refl _)).1 q k hq hk) hH b29
      refine r_iload_n hm rfl (k := ?_)
      refine r_if_eq (t := 326) hm rfl rfl (fun c136 => ?_) (fun c136 => ?_)
      · exfalso; omega
      · refine r_aload_n hm rfl (k := ?_)
        refine r_aload_n hm rfl (k := ?_)
        refine r_getI (hm := hm) (hf := rfl) (hd := rfl) (hs := (by first | assumption | exact (g1.1 _).trans rfl)) (hv := (by first | exact putI_eq | exact (putI_ne (by omega)).trans (by first | exact putI_eq | exact (putI_ne (by omega)).trans (by first | exact putI_eq | exact (putI_ne (by omega)).trans (by first | exact putI_eq | exact (putI_ne (by omega)).trans (by first | first | assumption | exact g1.2 _ _ _ rfl | exact Q0 _ _ (by omega) (by omega) | exact Q1 _ _ (by omega) (by omega) | exact Q2 _ _ (by omega) (by omega) | exact b36) | first | assumption | exact g1.2 _ _ _ rfl | exact Q0 _ _ (by omega) (by omega) | exact Q1 _ _ (by omega) (by omega) | exact Q2 _ _ (by omega) (by omega) | exact b36) | first | assumption | exact g1.2 _ _ _ rfl | exact Q0 _ _ (by omega) (by omega) | exact Q1 _ _ (by omega) (by omega) | exact Q2 _ _ (by omega) (by omega) | exact b36) | first | assumption | exact g1.2 _ _ _ rfl | exact Q0 _ _ (by omega) (by omega) | exact Q1 _ _ (by omega) (by omega) | exact Q2 _ _ (by omega) (by omega) | exact b36) | first | assumption | exact g1.2 _ _ _ rfl | exact Q0 _ _ (by omega) (by omega) | exact Q1 _ _ (by omega) (by omega) | exact Q2 _ _ (by omega) (by omega) | exact b36)) (k := ?_)
        refine r_callv (j2 := 187) hm rfl rfl rfl rfl rfl rfl (by first | assumption | exact (g1.1 _).trans rfl) (Nat.le_of_ble_eq_true rfl) (Nat.le_of_ble_eq_true rfl) rfl ⟨Nat.le_of_ble_eq_true rfl, Nat.le_of_ble_eq_true rfl, Nat.le_of_ble_eq_true rfl, Nat.le_of_ble_eq_true rfl, Nat.le_of_ble_eq_true rfl⟩ rfl (qR) (fun v9 hA p9 => ?_)
        obtain ⟨SA, hqA, yA, ePA, e1⟩ := p9
        subst e1
        replace hc1 : hA.2.1 1085 12 = (c : Int) := (SA.2.2 _ _ (by unfold regW; omega)).trans hc1
        have b36 : hA.2.1 1085 36 = (r : Int) := (SA.2.2 _ _ (by unfold regW; omega)).trans b36
        have b29A : hA.2.1 1085 29 = H := hqA.2.1
        have bsA : BsM hA x H r := ⟨b36, b29A, bN.keep SA (fun a k z => by unfold regW at z; omega), fun q hq => (bL q hq).same SA (fun a k z => by unfold regW at z; omega), fun q hq => (SA.2.2 _ _ (by unfold regW; omega)).trans (bP q hq)⟩
        replace S1 : Sm regM h hA := S1.trans (SA.mono (fun a k z => by unfold regW at z; unfold regM; omega))
        have g1 := S1.gg g
        have hR1 := S1.repM (fun a k z => regM_R z) hR
        obtain ⟨M0, M1, M2, M3, M4, Q0, Q1, Q2, S0, N0, N1⟩ := hR1.use
        have qN := m_findNext g1 hc1 hc3 hR1 hok (ltR_ok hok r) hH hqA yA bsA.2.2.1
        change RN 185 147 _ _ _ 0 0 _
        dsimp only [Option.toList, List.nil_append]
        refine r_aload_n hm rfl (k := ?_)
        refine r_callv (j2 := 196) hm rfl rfl rfl rfl rfl rfl (by first | assumption | exact (g1.1 _).trans rfl) (Nat.le_of_ble_eq_true rfl) (Nat.le_of_ble_eq_true rfl) rfl ⟨Nat.le_of_ble_eq_true rfl, Nat.le_of_ble_eq_true rfl, Nat.le_of_ble_eq_true rfl, Nat.le_of_ble_eq_true rfl, Nat.le_of_ble_eq_true rfl⟩ rfl (qN) (fun v9 hB p9 => ?_)
        obtain ⟨SB, nB, xB, e1⟩ := p9
        subst e1
        replace hc1 : hB.2.1 1085 12 = (c : Int) := (SB.2.2 _ _ (by omega)).trans hc1
        replace bsA := bsA.same SB (fun a k z => by omega)
        replace hqA := hqA.same SB (fun a k z => by unfold regW; omega)
        replace yA := yA.same SB (fun a k z => by omega)
        replace ePA : hB.2.1 1111 r = pgs x H r := (SB.2.2 _ _ (by omega)).trans ePA
        replace S1 : Sm regM h hB := S1.trans (SB.mono (fun a k z => by unfold regM; omega))
        have g1 := S1.gg g
        have hR1 := S1.repM (fun a k z => regM_R z) hR
        obtain ⟨M0, M1, M2, M3, M4, Q0, Q1, Q2, S0, N0, N1⟩ := hR1.use
        obtain ⟨b36, b29, bN, bL, bP⟩ := id bsA
        change RN 185 151 _ _ _ 0 0 _
        dsimp only [Option.toList, List.nil_append]
        refine r_iconst hm rfl (k := ?_)
        refine r_istore hm rfl (k := ?_)
        refine r_iconst hm rfl (k := ?_)
        refine r_istore hm rfl (k := ?_)
        suffices LP : ∀ (d2 q : Nat), q + d2 = r + 1 → RN 185 157 [some (.inr (.inr (some 1085))), some (.inl (c : Int)), some (.inl ln), some (.inl 1), some (.inl (lkM x H r q)), some (.inl (q : Int))] [] hB 0 0 (fun v h2 => Sm regM h h2 ∧ SetM h2 c x H ∧ v = none) from LP (r + 1) 0 (by omega)
        refine fun d2 => Nat.strongRecOn d2 (fun d2 ih2 => ?_)
        intro q hd2
        have lr := lkM_rng (x := x) (H := H) (r := r) q
        refine r_iload hm rfl (k := ?_)
        refine r_aload_n hm rfl (k := ?_)
        refine r_getI (hm := hm) (hf := rfl) (hd := rfl) (hs := (by first | assumption | exact (g1.1 _).trans rfl)) (hv := (by first | exact putI_eq | exact (putI_ne (by omega)).trans (by first | exact putI_eq | exact (putI_ne (by omega)).trans (by first | exact putI_eq | exact (putI_ne (by omega)).trans (by first | exact putI_eq | exact (putI_ne (by omega)).trans (by first | first | assumption | exact g1.2 _ _ _ rfl | exact Q0 _ _ (by omega) (by omega) | exact Q1 _ _ (by omega) (by omega) | exact Q2 _ _ (by omega) (by omega) | exact b36) | first | assumption | exact g1.2 _ _ _ rfl | exact Q0 _ _ (by omega) (by omega) | exact Q1 _ _ (by omega) (by omega) | exact Q2 _ _ (by omega) (by omega) | exact b36) | first | assumption | exact g1.2 _ _ _ rfl | exact Q0 _ _ (by omega) (by omega) | exact Q1 _ _ (by omega) (by omega) | exact Q2 _ _ (by omega) (by omega) | exact b36) | first | assumption | exact g1.2 _ _ _ rfl | exact Q0 _ _ (by omega) (by omega) | exact Q1 _ _ (by omega) (by omega) | exact Q2 _ _ (by omega) (by omega) | exact b36) | first | assumption | exact g1.2 _ _ _ rfl | exact Q0 _ _ (by omega) (by omega) | exact Q1 _ _ (by omega) (by omega) | exact Q2 _ _ (by omega) (by omega) | exact b36)) (k := ?_)
        refine r_icmp_gt (t := 194) hm rfl rfl (fun c163 => ?_) (fun c163 => ?_)
        · have eq9 : q = r + 1 := by omega
          subst eq9
          have elk : lkM x H r (r + 1) = lik x H r := rfl
          rw [elk] at lr ⊢
          refine r_aload_n hm rfl (k := ?_)
          refine r_iload hm rfl (k := ?_)
          refine r_aload_n hm rfl (k := ?_)
          refine r_getI (hm := hm) (hf := rfl) (hd := rfl) (hs := (by first | assumption | exact (g1.1 _).trans rfl)) (hv := (by first | exact putI_eq | exact (putI_ne (by omega)).trans (by first | exact putI_eq | exact (putI_ne (by omega)).trans (by first | exact putI_eq | exact (putI_ne (by omega)).trans (by first | exact putI_eq | exact (putI_ne (by omega)).trans (by first | first | assumption | exact g1.2 _ _ _ rfl | exact Q0 _ _ (by omega) (by omega) | exact Q1 _ _ (by omega) (by omega) | exact Q2 _ _ (by omega) (by omega) | exact b36) | first | assumption | exact g1.2 _ _ _ rfl | exact Q0 _ _ (by omega) (by omega) | exact Q1 _ _ (by omega) (by omega) | exact Q2 _ _ (by omega) (by omega) | exact b36) | first | assumption | exact g1.2 _ _ _ rfl | exact Q0 _ _ (by omega) (by omega) | exact Q1 _ _ (by omega) (by omega) | exact Q2 _ _ (by omega) (by omega) | exact b36) | first | assumption | exact g1.2 _ _ _ rfl | exact Q0 _ _ (by omega) (by omega) | exact Q1 _ _ (by omega) (by omega) | exact Q2 _ _ (by omega) (by omega) | exact b36) | first | assumption | exact g1.2 _ _ _ rfl | exact Q0 _ _ (by omega) (by omega) | exact Q1 _ _ (by omega) (by omega) | exact Q2 _ _ (by omega) (by omega) | exact b36)) (k := ?_)
          refine r_icmp_ne (t := 208) hm rfl rfl (fun c201 => ?_) (fun c201 => ?_)
          · refine r_iload hm rfl (k := ?_)
            refine r_if_lt (t := 217) hm rfl rfl (fun c210 => ?_) (fun c210 => ?_)
            · refine r_iconst hm rfl (k := ?_)
              refine r_putI (hm := hm) (hf := rfl) (hd := rfl) (hs := (by first | assumption | exact (g1.1 _).trans rfl)) (hfin := Or.inl rfl) (hz := fun q9 => absurd q9 (by decide)) (k := ?_)
              refine r_aload_n hm rfl (k := ?_)
              refine r_aload_n hm rfl (k := ?_)
              refine r_getI (hm := hm) (hf := rfl) (hd := rfl) (hs := (by first | assumption | exact (g1.1 _).trans rfl)) (hv := (by first | exact putI_eq | exact (putI_ne (by omega)).trans (by first | exact putI_eq | exact (putI_ne (by omega)).trans (by first | exact putI_eq | exact (putI_ne (by omega)).trans (by first | exact putI_eq | exact (putI_ne (by omega)).trans (by first | first | assumption | exact g1.2 _ _ _ rfl | exact Q0 _ _ (by omega) (by omega) | exact Q1 _ _ (by omega) (by omega) | exact Q2 _ _ (by omega) (by omega) | exact b36) | first | assumption | exact g1.2 _ _ _ rfl | exact Q0 _ _ (by omega) (by omega) | exact Q1 _ _ (by omega) (by omega) | exact Q2 _ _ (by omega) (by omega) | exact b36) | first | assumption | exact g1.2 _ _ _ rfl | exact Q0 _ _ (by omega) (by omega) | exact Q1 _ _ (by omega) (by omega) | exact Q2 _ _ (by omega) (by omega) | exact b36) | first | assumption | exact g1.2 _ _ _ rfl | exact Q0 _ _ (by omega) (by omega) | exact Q1 _ _ (by omega) (by omega) | exact Q2 _ _ (by omega) (by omega) | exact b36) | first | assumption | exact g1.2 _ _ _ rfl | exact Q0 _ _ (by omega) (by omega) | exact Q1 _ _ (by omega) (by omega) | exact Q2 _ _ (by omega) (by omega) | exact b36)) (k := ?_)
              refine r_iconst hm rfl (k := ?_)
              refine r_icmp_ne (t := 242) hm rfl rfl (fun c227 => ?_) (fun c227 => ?_)
              · refine r_iconst hm rfl (k := ?_)
                refine r_putI (hm := hm) (hf := rfl) (hd := rfl) (hs := (by first | assumption | exact (g1.1 _).trans rfl)) (hfin := Or.inl rfl) (hz := fun q9 => absurd q9 (by decide)) (k := ?_)
                refine r_aload_n hm rfl (k := ?_)
                refine r_getI (hm := hm) (hf := rfl) (hd := rfl) (hs := (by first | assumption | exact (g1.1 _).trans rfl)) (hv := (by first | exact putI_eq | exact (putI_ne (by omega)).trans (by first | exact putI_eq | exact (putI_ne (by omega)).trans (by first | exact putI_eq | exact (putI_ne (by omega)).trans (by first | exact putI_eq | exact (putI_ne (by omega)).trans (by first | first | assumption | exact g1.2 _ _ _ rfl | exact Q0 _ _ (by omega) (by omega) | exact Q1 _ _ (by omega) (by omega) | exact Q2 _ _ (by omega) (by omega) | exact b36) | first | assumption | exact g1.2 _ _ _ rfl | exact Q0 _ _ (by omega) (by omega) | exact Q1 _ _ (by omega) (by omega) | exact Q2 _ _ (by omega) (by omega) | exact b36) | first | assumption | exact g1.2 _ _ _ rfl | exact Q0 _ _ (by omega) (by omega) | exact Q1 _ _ (by omega) (by omega) | exact Q2 _ _ (by omega) (by omega) | exact b36) | first | assumption | exact g1.2 _ _ _ rfl | exact Q0 _ _ (by omega) (by omega) | exact Q1 _ _ (by omega) (by omega) | exact Q2 _ _ (by omega) (by omega) | exact b36) | first | assumption | exact g1.2 _ _ _ rfl | exact Q0 _ _ (by omega) (by omega) | exact Q1 _ _ (by omega) (by omega) | exact Q2 _ _ (by omega) (by omega) | exact b36)) (k := ?_)
                refine r_iconst hm rfl (k := ?_)
                refine r_icmp_ne (t := 267) hm rfl rfl (fun c251 => ?_) (fun c251 => ?_)
                · exfalso; omega
                · refine r_aload_n hm rfl (k := ?_)
                  refine r_getI (hm := hm) (hf := rfl) (hd := rfl) (hs := (by first | assumption | exact (g1.1 _).trans rfl)) (hv := (by first | exact putI_eq | exact (putI_ne (by omega)).trans (by first | exact putI_eq | exact (putI_ne (by omega)).trans (by first | exact putI_eq | exact (putI_ne (by omega)).trans (by first | exact putI_eq | exact (putI_ne (by omega)).trans (by first | first | assumption | exact g1.2 _ _ _ rfl | exact Q0 _ _ (by omega) (by omega) | exact Q1 _ _ (by omega) (by omega) | exact Q2 _ _ (by omega) (by omega) | exact b36) | first | assumption | exact g1.2 _ _ _ rfl | exact Q0 _ _ (by omega) (by omega) | exact Q1 _ _ (by omega) (by omega) | exact Q2 _ _ (by omega) (by omega) | exact b36) | first | assumption | exact g1.2 _ _ _ rfl | exact Q0 _ _ (by omega) (by omega) | exact Q1 _ _ (by omega) (by omega) | exact Q2 _ _ (by omega) (by omega) | exact b36) | first | assumption | exact g1.2 _ _ _ rfl | exact Q0 _ _ (by omega) (by omega) | exact Q1 _ _ (by omega) (by omega) | exact Q2 _ _ (by omega) (by omega) | exact b36) | first | assumption | exact g1.2 _ _ _ rfl | exact Q0 _ _ (by omega) (by omega) | exact Q1 _ _ (by omega) (by omega) | exact Q2 _ _ (by omega) (by omega) | exact b36)) (k := ?_)
                  refine r_bipush hm rfl (k := ?_)
                  refine r_icmp_ge (t := 267) hm rfl rfl (fun c260 => ?_) (fun c260 => ?_)
                  · refine r_iconst hm rfl (k := ?_)
                    refine r_istore_n hm rfl (k := ?_)
                    refine r_iload_n hm rfl (k := ?_)
                    refine r_if_eq (t := 323) hm rfl rfl (fun c270 => ?_) (fun c270 => ?_)
                    · refine r_goto (t := 135) hm rfl (k := ?_)
                      refine r_iload_n hm rfl (k := ?_)
                      refine r_if_eq (t := 326) hm rfl rfl (fun c136 => ?_) (fun c136 => ?_)
                      · refine r_return hm rfl rfl (Nat.le_of_ble_eq_true rfl) (Nat.le_of_ble_eq_true rfl) ?_
                        have ef : fin x H = r := by rw [← hfin, show r = 11 by omega]; rfl
                        have SY : Sm (fun a k => a = 1085 ∧ (k = 35 ∨ k = 37)) hB (putI (putI hB 1085 35 2) 1085 37 0) := Sm.put (Sm.put Sm.refl (by omega)) (by omega)
                        refine ⟨S1.trans (SY.mono (fun a k z => by unfold regM; omega)), ?_, rfl⟩
                        unfold SetM
                        rw [ef]
                        refine ⟨(SY.2.2 _ _ (by omega)).trans hc1, ?_, (SY.2.2 _ _ (by omega)).trans b36, ?_, fun q hq9 => ?_, hqA.same SY (fun a k z => by unfold regW; omega), yA.same SY (fun a k z => by omega), (bL r (Nat.le_refl _)).same SY (fun a k z => by omega), nB.same SY (fun a k z => by omega), bN.keep SY (fun a k z => by omega)⟩
                        · rw [putI_ne (by omega), putI_eq]
                          unfold ocm
                          rw [if_neg (by omega), if_pos (by omega)]
                        · rw [putI_eq]
                          unfold prd
                          rw [if_pos (by omega)]
                        · rw [SY.2.2 _ _ (by omega)]
                          by_cases ej : q = r
                          · rw [ej]; exact ePA
                          · exact bP q (by omega)
                      · exfalso; omega
                    · exfalso; omega
                  · refine r_iconst hm rfl (k := ?_)
                    refine r_goto (t := 268) hm rfl (k := ?_)
                    refine r_istore_n hm rfl (k := ?_)
                    refine r_iload_n hm rfl (k := ?_)
                    refine r_if_eq (t := 323) hm rfl rfl (fun c270 => ?_) (fun c270 => ?_)
                    · exfalso; omega
                    · refine r_aload_n hm rfl (k := ?_)
                      refine r_dup hm rfl (k := ?_)
                      refine r_getI (hm := hm) (hf := rfl) (hd := rfl) (hs := (by first | assumption | exact (g1.1 _).trans rfl)) (hv := (by first | exact putI_eq | exact (putI_ne (by omega)).trans (by first | exact putI_eq | exact (putI_ne (by omega)).trans (by first | exact putI_eq | exact (putI_ne (by omega)).trans (by first | exact putI_eq | exact (putI_ne (by omega)).trans (by first | first | assumption | exact g1.2 _ _ _ rfl | exact Q0 _ _ (by omega) (by omega) | exact Q1 _ _ (by omega) (by omega) | exact Q2 _ _ (by omega) (by omega) | exact b36) | first | assumption | exact g1.2 _ _ _ rfl | exact Q0 _ _ (by omega) (by omega) | exact Q1 _ _ (by omega) (by omega) | exact Q2 _ _ (by omega) (by omega) | exact b36) | first | assumption | exact g1.2 _ _ _ rfl | exact Q0 _ _ (by omega) (by omega) | exact Q1 _ _ (by omega) (by omega) | exact Q2 _ _ (by omega) (by omega) | exact b36) | first | assumption | exact g1.2 _ _ _ rfl | exact Q0 _ _ (by omega) (by omega) | exact Q1 _ _ (by omega) (by omega) | exact Q2 _ _ (by omega) (by omega) | exact b36) | first | assumption | exact g1.2 _ _ _ rfl | exact Q0 _ _ (by omega) (by omega) | exact Q1 _ _ (by omega) (by omega) | exact Q2 _ _ (by omega) (by omega) | exact b36)) (k := ?_)
                      refine r_iconst hm rfl (k := ?_)
                      refine r_iadd hm rfl (hr := (by omega)) (k := ?_)
                      refine r_putI (hm := hm) (hf := rfl) (hd := rfl) (hs := (by first | assumption | exact (g1.1 _).trans rfl)) (hfin := Or.inl rfl) (hz := fun q9 => absurd q9 (by decide)) (k := ?_)
                      refine RN.abs (fun h1 => Sm (fun a k => a = 1085 ∧ 35 ≤ k ∧ k ≤ 37) hB h1 ∧ h1.2.1 1085 36 = ((r + 1 : Nat) : Int)) ⟨Sm.put (Sm.put (Sm.put Sm.refl (by omega)) (by omega)) (by omega), putI_eq⟩ (fun hC H9 => ?_)
                      obtain ⟨SC, e36⟩ := H9
                      have S2 : Sm regM h hC := S1.trans (SC.mono (fun a k z => by unfold regM; omega))
                      have g1 := S2.gg g
                      have hR1 := S2.repM (fun a k z => regM_R z) hR
                      obtain ⟨M0, M1, M2, M3, M4, Q0, Q1, Q2, S0, N0, N1⟩ := hR1.use
                      refine r_iconst hm rfl (k := ?_)
                      refine r_istore hm rfl (k := ?_)
                      suffices LP : ∀ (d3 k : Nat) (h1 : Hp), k + d3 = 1200 → Sm (fun a k => a = 1103 ∧ 1200 * (r + 1) ≤ k) hC h1 → (∀ k2, k2 < k → h1.2.1 1103 (1200 * (r + 1) + k2) = hC.2.1 1115 k2) → RN 185 286 [some (.inr (.inr (some 1085))), some (.inl (c : Int)), some (.inl ln), some (.inl 1), some (.inl (lik x H r)), some (.inl (k : Int))] [] h1 0 0 (fun v h2 => Sm regM h h2 ∧ SetM h2 c x H ∧ v = none) from LP 1200 0 _ rfl Sm.refl (fun k2 hk => absurd hk (Nat.not_lt_zero _))
                      refine fun d3 => Nat.strongRecOn d3 (fun d3 ih3 => ?_)
                      intro k h1 hd3 S3 eK
                      have g1 := S3.gg (S2.gg g)
                      have e36b : h1.2.1 1085 36 = ((r + 1 : Nat) : Int) := (S3.2.2 _ _ (by omega)).trans e36
                      have eN : h1.2.1 1115 k = hC.2.1 1115 k := S3.2.2 _ _ (by omega)
                      refine r_iload hm rfl (k := ?_)
                      refine r_sipush hm rfl (k := ?_)
                      refine r_icmp_ge (t := 323) hm rfl rfl (fun c291 => ?_) (fun c291 => ?_)
                      · refine r_goto (t := 135) hm rfl (k := ?_)
                        have ek : k = 1200 := by omega
                        subst ek
                        have S4 : Sm regM h h1 := S2.trans (S3.mono (fun a k z => by unfold regM; omega))
                        have S5 : Sm (fun a k => (a = 1085 ∧ 35 ≤ k ∧ k ≤ 37) ∨ (a = 1103 ∧ 1200 * (r + 1) ≤ k)) hB h1 := (SC.mono (fun a k z => Or.inl z)).trans (S3.mono (fun a k z => Or.inr z))
                        have n60 := hok.1
                        refine ih (d - 1) (by omega) (r + 1) h1 _ _ (by omega) S4 ((S5.2.2 _ _ (by omega)).trans hc1) ⟨e36b, (S5.2.2 _ _ (by omega)).trans b29, bN.keep S5 (fun a k z => by omega), fun q hq => ?_, fun q hq => ?_⟩ (by rw [← hfin, rnd_s (r := r) (by omega) (by omega)])
                        · by_cases ej : q = r + 1
                          · subst ej
                            refine ⟨fun q2 k2 hq2 hk2 => ?_, fun k2 hk => absurd hk (Nat.not_lt_zero _)⟩
                            have hp := pcs_eq hok hq2
                            rw [show 1200 * (r + 1) + 20 * q2 + k2 = 1200 * (r + 1) + (20 * q2 + k2) by omega, eK _ (by omega), SC.2.2 _ _ (by omega)]
                            exact xB.zero hq2 hk2
                          · refine ⟨fun q2 k2 hq2 hk2 => ?_, fun k2 hk => absurd hk (Nat.not_lt_zero _)⟩
                            have hp := pcs_eq hok hq2
                            rw [S5.2.2 _ _ (by omega)]
                            exact (bL q (by omega)).1 q2 k2 hq2 hk2
                        · rw [S5.2.2 _ _ (by omega)]
                          by_cases ej : q = r
                          · rw [ej]; exact ePA
                          · exact bP q (by omega)
                      · refine r_aload_n hm rfl (k := ?_)
                        refine r_getR (hm := hm) (hf := rfl) (hd := rfl) (hs := (by first | assumption | exact (g1.1 _).trans rfl)) (hv := (by first | exact putI_eq | exact (putI_ne (by omega)).trans (by first | exact putI_eq | exact (putI_ne (by omega)).trans (by first | exact putI_eq | exact (putI_ne (by omega)).trans (by first | exact putI_eq | exact (putI_ne (by omega)).trans (by first | first | assumption | exact g1.2 _ _ _ rfl | exact Q0 _ _ (by omega) (by omega) | exact Q1 _ _ (by omega) (by omega) | exact Q2 _ _ (by omega) (by omega) | exact b36) | first | assumption | exact g1.2 _ _ _ rfl | exact Q0 _ _ (by omega) (by omega) | exact Q1 _ _ (by omega) (by omega) | exact Q2 _ _ (by omega) (by omega) | exact b36) | first | assumption | exact g1.2 _ _ _ rfl | exact Q0 _ _ (by omega) (by omega) | exact Q1 _ _ (by omega) (by omega) | exact Q2 _ _ (by omega) (by omega) | exact b36) | first | assumption | exact g1.2 _ _ _ rfl | exact Q0 _ _ (by omega) (by omega) | exact Q1 _ _ (by omega) (by omega) | exact Q2 _ _ (by omega) (by omega) | exact b36) | first | assumption | exact g1.2 _ _ _ rfl | exact Q0 _ _ (by omega) (by omega) | exact Q1 _ _ (by omega) (by omega) | exact Q2 _ _ (by omega) (by omega) | exact b36)) (k := ?_)
                        refine r_sipush hm rfl (k := ?_)
                        refine r_aload_n hm rfl (k := ?_)
                        refine r_getI (hm := hm) (hf := rfl) (hd := rfl) (hs := (by first | assumption | exact (g1.1 _).trans rfl)) (hv := (by first | exact putI_eq | exact (putI_ne (by omega)).trans (by first | exact putI_eq | exact (putI_ne (by omega)).trans (by first | exact putI_eq | exact (putI_ne (by omega)).trans (by first | exact putI_eq | exact (putI_ne (by omega)).trans (by first | first | assumption | exact g1.2 _ _ _ rfl | exact Q0 _ _ (by omega) (by omega) | exact Q1 _ _ (by omega) (by omega) | exact Q2 _ _ (by omega) (by omega) | exact b36) | first | assumption | exact g1.2 _ _ _ rfl | exact Q0 _ _ (by omega) (by omega) | exact Q1 _ _ (by omega) (by omega) | exact Q2 _ _ (by omega) (by omega) | exact b36) | first | assumption | exact g1.2 _ _ _ rfl | exact Q0 _ _ (by omega) (by omega) | exact Q1 _ _ (by omega) (by omega) | exact Q2 _ _ (by omega) (by omega) | exact b36) | first | assumption | exact g1.2 _ _ _ rfl | exact Q0 _ _ (by omega) (by omega) | exact Q1 _ _ (by omega) (by omega) | exact Q2 _ _ (by omega) (by omega) | exact b36) | first | assumption | exact g1.2 _ _ _ rfl | exact Q0 _ _ (by omega) (by omega) | exact Q1 _ _ (by omega) (by omega) | exact Q2 _ _ (by omega) (by omega) | exact b36)) (k := ?_)
                        refine r_imul hm rfl (hr := (by omega)) (k := ?_)
                        refine r_iload hm rfl (k := ?_)
                        refine r_iadd hm rfl (hr := (by omega)) (k := ?_)
                        refine r_aload_n hm rfl (k := ?_)
                        refine r_getR (hm := hm) (hf := rfl) (hd := rfl) (hs := (by first | assumption | exact (g1.1 _).trans rfl)) (hv := (by first | exact putI_eq | exact (putI_ne (by omega)).trans (by first | exact putI_eq | exact (putI_ne (by omega)).trans (by first | exact putI_eq | exact (putI_ne (by omega)).trans (by first | exact putI_eq | exact (putI_ne (by omega)).trans (by first | first | assumption | exact g1.2 _ _ _ rfl | exact Q0 _ _ (by omega) (by omega) | exact Q1 _ _ (by omega) (by omega) | exact Q2 _ _ (by omega) (by omega) | exact b36) | first | assumption | exact g1.2 _ _ _ rfl | exact Q0 _ _ (by omega) (by omega) | exact Q1 _ _ (by omega) (by omega) | exact Q2 _ _ (by omega) (by omega) | exact b36) | first | assumption | exact g1.2 _ _ _ rfl | exact Q0 _ _ (by omega) (by omega) | exact Q1 _ _ (by omega) (by omega) | exact Q2 _ _ (by omega) (by omega) | exact b36) | first | assumption | exact g1.2 _ _ _ rfl | exact Q0 _ _ (by omega) (by omega) | exact Q1 _ _ (by omega) (by omega) | exact Q2 _ _ (by omega) (by omega) | exact b36) | first | assumption | exact g1.2 _ _ _ rfl | exact Q0 _ _ (by omega) (by omega) | exact Q1 _ _ (by omega) (by omega) | exact Q2 _ _ (by omega) (by omega) | exact b36)) (k := ?_)
                        refine r_iload hm rfl (k := ?_)
                        refine r_iald (hm := hm) (hf := rfl) (hs := (by first | assumption | exact (g1.1 _).trans rfl)) (hi := rfl) (hn := (by omega)) (hv := (by first | exact putI_eq | exact (putI_ne (by omega)).trans (by first | exact putI_eq | exact (putI_ne (by omega)).trans (by first | exact putI_eq | exact (putI_ne (by omega)).trans (by first | exact putI_eq | exact (putI_ne (by omega)).trans (by first | first | assumption | exact g1.2 _ _ _ rfl | exact Q0 _ _ (by omega) (by omega) | exact Q1 _ _ (by omega) (by omega) | exact Q2 _ _ (by omega) (by omega) | exact b36) | first | assumption | exact g1.2 _ _ _ rfl | exact Q0 _ _ (by omega) (by omega) | exact Q1 _ _ (by omega) (by omega) | exact Q2 _ _ (by omega) (by omega) | exact b36) | first | assumption | exact g1.2 _ _ _ rfl | exact Q0 _ _ (by omega) (by omega) | exact Q1 _ _ (by omega) (by omega) | exact Q2 _ _ (by omega) (by omega) | exact b36) | first | assumption | exact g1.2 _ _ _ rfl | exact Q0 _ _ (by omega) (by omega) | exact Q1 _ _ (by omega) (by omega) | exact Q2 _ _ (by omega) (by omega) | exact b36) | first | assumption | exact g1.2 _ _ _ rfl | exact Q0 _ _ (by omega) (by omega) | exact Q1 _ _ (by omega) (by omega) | exact Q2 _ _ (by omega) (by omega) | exact b36)) (k := ?_)
                        refine r_iast (hm := hm) (hf := rfl) (h28 := (by omega)) (hs := (by first | assumption | exact (g1.1 _).trans rfl)) (kk := 1200 * (r + 1) + k) (hi := by omega) (hn := (by omega)) (k := ?_)
                        refine r_iinc hm rfl (hr := (by omega)) (k := ?_)
                        refine r_goto (t := 286) hm rfl (k := ?_)
                        refine ih3 (d3 - 1) (by omega) (k + 1) _ (by omega) (Sm.put S3 (by omega)) (fun k2 hk => ?_)
                        by_cases e2 : k2 = k
                        · rw [e2, putI_eq]
                        · rw [putI_ne (by omega)]; exact eK k2 (by omega)
              · exfalso; omega
            · refine r_iconst hm rfl (k := ?_)
              refine r_goto (t := 218) hm rfl (k := ?_)
              refine r_putI (hm := hm) (hf := rfl) (hd := rfl) (hs := (by first | assumption | exact (g1.1 _).trans rfl)) (hfin := Or.inl rfl) (hz := fun q9 => absurd q9 (by decide)) (k := ?_)
              refine r_aload_n hm rfl (k := ?_)
              refine r_aload_n hm rfl (k := ?_)
              refine r_getI (hm := hm) (hf := rfl) (hd := rfl) (hs := (by first | assumption | exact (g1.1 _).trans rfl)) (hv := (by first | exact putI_eq | exact (putI_ne (by omega)).trans (by first | exact putI_eq | exact (putI_ne (by omega)).trans (by first | exact putI_eq | exact (putI_ne (by omega)).trans (by first | exact putI_eq | exact (putI_ne (by omega)).trans (by first | first | assumption | exact g1.2 _ _ _ rfl | exact Q0 _ _ (by omega) (by omega) | exact Q1 _ _ (by omega) (by omega) | exact Q2 _ _ (by omega) (by omega) | exact b36) | first | assumption | exact g1.2 _ _ _ rfl | exact Q0 _ _ (by omega) (by omega) | exact Q1 _ _ (by omega) (by omega) | exact Q2 _ _ (by omega) (by omega) | exact b36) | first | assumption | exact g1.2 _ _ _ rfl | exact Q0 _ _ (by omega) (by omega) | exact Q1 _ _ (by omega) (by omega) | exact Q2 _ _ (by omega) (by omega) | exact b36) | first | assumption | exact g1.2 _ _ _ rfl | exact Q0 _ _ (by omega) (by omega) | exact Q1 _ _ (by omega) (by omega) | exact Q2 _ _ (by omega) (by omega) | exact b36) | first | assumption | exact g1.2 _ _ _ rfl | exact Q0 _ _ (by omega) (by omega) | exact Q1 _ _ (by omega) (by omega) | exact Q2 _ _ (by omega) (by omega) | exact b36)) (k := ?_)
              refine r_iconst hm rfl (k := ?_)
              refine r_icmp_ne (t := 242) hm rfl rfl (fun c227 => ?_) (fun c227 => ?_)
              · exfalso; omega
              · refine r_aload_n hm rfl (k := ?_)
                refine r_getI (hm := hm) (hf := rfl) (hd := rfl) (hs := (by first | assumption | exact (g1.1 _).trans rfl)) (hv := (by first | exact putI_eq | exact (putI_ne (by omega)).trans (by first | exact putI_eq | exact (putI_ne (by omega)).trans (by first | exact putI_eq | exact (putI_ne (by omega)).trans (by first | exact putI_eq | exact (putI_ne (by omega)).trans (by first | first | assumption | exact g1.2 _ _ _ rfl | exact Q0 _ _ (by omega) (by omega) | exact Q1 _ _ (by omega) (by omega) | exact Q2 _ _ (by omega) (by omega) | exact b36) | first | assumption | exact g1.2 _ _ _ rfl | exact Q0 _ _ (by omega) (by omega) | exact Q1 _ _ (by omega) (by omega) | exact Q2 _ _ (by omega) (by omega) | exact b36) | first | assumption | exact g1.2 _ _ _ rfl | exact Q0 _ _ (by omega) (by omega) | exact Q1 _ _ (by omega) (by omega) | exact Q2 _ _ (by omega) (by omega) | exact b36) | first | assumption | exact g1.2 _ _ _ rfl | exact Q0 _ _ (by omega) (by omega) | exact Q1 _ _ (by omega) (by omega) | exact Q2 _ _ (by omega) (by omega) | exact b36) | first | assumption | exact g1.2 _ _ _ rfl | exact Q0 _ _ (by omega) (by omega) | exact Q1 _ _ (by omega) (by omega) | exact Q2 _ _ (by omega) (by omega) | exact b36)) (k := ?_)
                refine r_iconst hm rfl (k := ?_)
                refine r_iadd hm rfl (hr := (by omega)) (k := ?_)
                refine r_iload hm rfl (k := ?_)
                refine r_isub hm rfl (hr := (by omega)) (k := ?_)
                refine r_goto (t := 243) hm rfl (k := ?_)
                refine r_putI (hm := hm) (hf := rfl) (hd := rfl) (hs := (by first | assumption | exact (g1.1 _).trans rfl)) (hfin := Or.inl rfl) (hz := fun q9 => absurd q9 (by decide)) (k := ?_)
                refine r_aload_n hm rfl (k := ?_)
                refine r_getI (hm := hm) (hf := rfl) (hd := rfl) (hs := (by first | assumption | exact (g1.1 _).trans rfl)) (hv := (by first | exact putI_eq | exact (putI_ne (by omega)).trans (by first | exact putI_eq | exact (putI_ne (by omega)).trans (by first | exact putI_eq | exact (putI_ne (by omega)).trans (by first | exact putI_eq | exact (putI_ne (by omega)).trans (by first | first | assumption | exact g1.2 _ _ _ rfl | exact Q0 _ _ (by omega) (by omega) | exact Q1 _ _ (by omega) (by omega) | exact Q2 _ _ (by omega) (by omega) | exact b36) | first | assumption | exact g1.2 _ _ _ rfl | exact Q0 _ _ (by omega) (by omega) | exact Q1 _ _ (by omega) (by omega) | exact Q2 _ _ (by omega) (by omega) | exact b36) | first | assumption | exact g1.2 _ _ _ rfl | exact Q0 _ _ (by omega) (by omega) | exact Q1 _ _ (by omega) (by omega) | exact Q2 _ _ (by omega) (by omega) | exact b36) | first | assumption | exact g1.2 _ _ _ rfl | exact Q0 _ _ (by omega) (by omega) | exact Q1 _ _ (by omega) (by omega) | exact Q2 _ _ (by omega) (by omega) | exact b36) | first | assumption | exact g1.2 _ _ _ rfl | exact Q0 _ _ (by omega) (by omega) | exact Q1 _ _ (by omega) (by omega) | exact Q2 _ _ (by omega) (by omega) | exact b36)) (k := ?_)
                refine r_iconst hm rfl (k := ?_)
                refine r_icmp_ne (t := 267) hm rfl rfl (fun c251 => ?_) (fun c251 => ?_)
                · refine r_iconst hm rfl (k := ?_)
                  refine r_istore_n hm rfl (k := ?_)
                  refine r_iload_n hm rfl (k := ?_)
                  refine r_if_eq (t := 323) hm rfl rfl (fun c270 => ?_) (fun c270 => ?_)
                  · refine r_goto (t := 135) hm rfl (k := ?_)
                    refine r_iload_n hm rfl (k := ?_)
                    refine r_if_eq (t := 326) hm rfl rfl (fun c136 => ?_) (fun c136 => ?_)
                    · refine r_return hm rfl rfl (Nat.le_of_ble_eq_true rfl) (Nat.le_of_ble_eq_true rfl) ?_
                      have ef : fin x H = r := hfin.symm.trans (rnd_n (by omega))
                      have SY : Sm (fun a k => a = 1085 ∧ (k = 35 ∨ k = 37)) hB (putI (putI hB 1085 35 1) 1085 37 ((r : Int) + 1 - lik x H r)) := Sm.put (Sm.put Sm.refl (by omega)) (by omega)
                      refine ⟨S1.trans (SY.mono (fun a k z => by unfold regM; omega)), ?_, rfl⟩
                      unfold SetM
                      rw [ef]
                      refine ⟨(SY.2.2 _ _ (by omega)).trans hc1, ?_, (SY.2.2 _ _ (by omega)).trans b36, ?_, fun q hq9 => ?_, hqA.same SY (fun a k z => by unfold regW; omega), yA.same SY (fun a k z => by omega), (bL r (Nat.le_refl _)).same SY (fun a k z => by omega), nB.same SY (fun a k z => by omega), bN.keep SY (fun a k z => by omega)⟩
                      · rw [putI_ne (by omega), putI_eq]
                        unfold ocm
                        rw [if_neg (by omega), if_neg (by omega)]
                      · rw [putI_eq]
                        unfold prd
                        rw [if_neg (by omega)]
                      · rw [SY.2.2 _ _ (by omega)]
                        by_cases ej : q = r
                        · rw [ej]; exact ePA
                        · exact bP q (by omega)
                    · exfalso; omega
                  · exfalso; omega
                · exfalso; omega
          · refine r_iconst hm rfl (k := ?_)
            refine r_goto (t := 218) hm rfl (k := ?_)
            refine r_putI (hm := hm) (hf := rfl) (hd := rfl) (hs := (by first | assumption | exact (g1.1 _).trans rfl)) (hfin := Or.inl rfl) (hz := fun q9 => absurd q9 (by decide)) (k := ?_)
            refine r_aload_n hm rfl (k := ?_)
            refine r_aload_n hm rfl (k := ?_)
            refine r_getI (hm := hm) (hf := rfl) (hd := rfl) (hs := (by first | assumption | exact (g1.1 _).trans rfl)) (hv := (by first | exact putI_eq | exact (putI_ne (by omega)).trans (by first | exact putI_eq | exact (putI_ne (by omega)).trans (by first | exact putI_eq | exact (putI_ne (by omega)).trans (by first | exact putI_eq | exact (putI_ne (by omega)).trans (by first | first | assumption | exact g1.2 _ _ _ rfl | exact Q0 _ _ (by omega) (by omega) | exact Q1 _ _ (by omega) (by omega) | exact Q2 _ _ (by omega) (by omega) | exact b36) | first | assumption | exact g1.2 _ _ _ rfl | exact Q0 _ _ (by omega) (by omega) | exact Q1 _ _ (by omega) (by omega) | exact Q2 _ _ (by omega) (by omega) | exact b36) | first | assumption | exact g1.2 _ _ _ rfl | exact Q0 _ _ (by omega) (by omega) | exact Q1 _ _ (by omega) (by omega) | exact Q2 _ _ (by omega) (by omega) | exact b36) | first | assumption | exact g1.2 _ _ _ rfl | exact Q0 _ _ (by omega) (by omega) | exact Q1 _ _ (by omega) (by omega) | exact Q2 _ _ (by omega) (by omega) | exact b36) | first | assumption | exact g1.2 _ _ _ rfl | exact Q0 _ _ (by omega) (by omega) | exact Q1 _ _ (by omega) (by omega) | exact Q2 _ _ (by omega) (by omega) | exact b36)) (k := ?_)
            refine r_iconst hm rfl (k := ?_)
            refine r_icmp_ne (t := 242) hm rfl rfl (fun c227 => ?_) (fun c227 => ?_)
            · refine r_iconst hm rfl (k := ?_)
              refine r_putI (hm := hm) (hf := rfl) (hd := rfl) (hs := (by first | assumption | exact (g1.1 _).trans rfl)) (hfin := Or.inl rfl) (hz := fun q9 => absurd q9 (by decide)) (k := ?_)
              refine r_aload_n hm rfl (k := ?_)
              refine r_getI (hm := hm) (hf := rfl) (hd := rfl) (hs := (by first | assumption | exact (g1.1 _).trans rfl)) (hv := (by first | exact putI_eq | exact (putI_ne (by omega)).trans (by first | exact putI_eq | exact (putI_ne (by omega)).trans (by first | exact putI_eq | exact (putI_ne (by omega)).trans (by first | exact putI_eq | exact (putI_ne (by omega)).trans (by first | first | assumption | exact g1.2 _ _ _ rfl | exact Q0 _ _ (by omega) (by omega) | exact Q1 _ _ (by omega) (by omega) | exact Q2 _ _ (by omega) (by omega) | exact b36) | first | assumption | exact g1.2 _ _ _ rfl | exact Q0 _ _ (by omega) (by omega) | exact Q1 _ _ (by omega) (by omega) | exact Q2 _ _ (by omega) (by omega) | exact b36) | first | assumption | exact g1.2 _ _ _ rfl | exact Q0 _ _ (by omega) (by omega) | exact Q1 _ _ (by omega) (by omega) | exact Q2 _ _ (by omega) (by omega) | exact b36) | first | assumption | exact g1.2 _ _ _ rfl | exact Q0 _ _ (by omega) (by omega) | exact Q1 _ _ (by omega) (by omega) | exact Q2 _ _ (by omega) (by omega) | exact b36) | first | assumption | exact g1.2 _ _ _ rfl | exact Q0 _ _ (by omega) (by omega) | exact Q1 _ _ (by omega) (by omega) | exact Q2 _ _ (by omega) (by omega) | exact b36)) (k := ?_)
              refine r_iconst hm rfl (k := ?_)
              refine r_icmp_ne (t := 267) hm rfl rfl (fun c251 => ?_) (fun c251 => ?_)
              · refine r_iconst hm rfl (k := ?_)
                refine r_istore_n hm rfl (k := ?_)
                refine r_iload_n hm rfl (k := ?_)
                refine r_if_eq (t := 323) hm rfl rfl (fun c270 => ?_) (fun c270 => ?_)
                · refine r_goto (t := 135) hm rfl (k := ?_)
                  refine r_iload_n hm rfl (k := ?_)
                  refine r_if_eq (t := 326) hm rfl rfl (fun c136 => ?_) (fun c136 => ?_)
                  · refine r_return hm rfl rfl (Nat.le_of_ble_eq_true rfl) (Nat.le_of_ble_eq_true rfl) ?_
                    have ef : fin x H = r := hfin.symm.trans (rnd_n (by omega))
                    have SY : Sm (fun a k => a = 1085 ∧ (k = 35 ∨ k = 37)) hB (putI (putI hB 1085 35 0) 1085 37 0) := Sm.put (Sm.put Sm.refl (by omega)) (by omega)
                    refine ⟨S1.trans (SY.mono (fun a k z => by unfold regM; omega)), ?_, rfl⟩
                    unfold SetM
                    rw [ef]
                    refine ⟨(SY.2.2 _ _ (by omega)).trans hc1, ?_, (SY.2.2 _ _ (by omega)).trans b36, ?_, fun q hq9 => ?_, hqA.same SY (fun a k z => by unfold regW; omega), yA.same SY (fun a k z => by omega), (bL r (Nat.le_refl _)).same SY (fun a k z => by omega), nB.same SY (fun a k z => by omega), bN.keep SY (fun a k z => by omega)⟩
                    · rw [putI_ne (by omega), putI_eq]
                      unfold ocm
                      rw [if_pos (by omega)]
                    · rw [putI_eq]
                      unfold prd
                      rw [if_pos (by omega)]
                    · rw [SY.2.2 _ _ (by omega)]
                      by_cases ej : q = r
                      · rw [ej]; exact ePA
                      · exact bP q (by omega)
                  · exfalso; omega
                · exfalso; omega
              · exfalso; omega
            · exfalso; omega
        · have qI := m_isLike (r0 := (r : Int)) g1 hc1 hc3 hR1 hok (o9 := q) (by omega) xB (bL q (by omega))
          refine r_aload_n hm rfl (k := ?_)
          refine r_aload_n hm rfl (k := ?_)
          refine r_getI (hm := hm) (hf := rfl) (hd := rfl) (hs := (by first | assumption | exact (g1.1 _).trans rfl)) (hv := (by first | exact putI_eq | exact (putI_ne (by omega)).trans (by first | exact putI_eq | exact (putI_ne (by omega)).trans (by first | exact putI_eq | exact (putI_ne (by omega)).trans (by first | exact putI_eq | exact (putI_ne (by omega)).trans (by first | first | assumption | exact g1.2 _ _ _ rfl | exact Q0 _ _ (by omega) (by omega) | exact Q1 _ _ (by omega) (by omega) | exact Q2 _ _ (by omega) (by omega) | exact b36) | first | assumption | exact g1.2 _ _ _ rfl | exact Q0 _ _ (by omega) (by omega) | exact Q1 _ _ (by omega) (by omega) | exact Q2 _ _ (by omega) (by omega) | exact b36) | first | assumption | exact g1.2 _ _ _ rfl | exact Q0 _ _ (by omega) (by omega) | exact Q1 _ _ (by omega) (by omega) | exact Q2 _ _ (by omega) (by omega) | exact b36) | first | assumption | exact g1.2 _ _ _ rfl | exact Q0 _ _ (by omega) (by omega) | exact Q1 _ _ (by omega) (by omega) | exact Q2 _ _ (by omega) (by omega) | exact b36) | first | assumption | exact g1.2 _ _ _ rfl | exact Q0 _ _ (by omega) (by omega) | exact Q1 _ _ (by omega) (by omega) | exact Q2 _ _ (by omega) (by omega) | exact b36)) (k := ?_)
          refine r_iload hm rfl (k := ?_)
          refine r_callv (j2 := 200) hm rfl rfl rfl rfl rfl rfl (by first | assumption | exact (g1.1 _).trans rfl) (Nat.le_of_ble_eq_true rfl) (Nat.le_of_ble_eq_true rfl) rfl ⟨Nat.le_of_ble_eq_true rfl, Nat.le_of_ble_eq_true rfl, Nat.le_of_ble_eq_true rfl, Nat.le_of_ble_eq_true rfl, Nat.le_of_ble_eq_true rfl⟩ rfl (qI) (fun v9 h9 p9 => ?_)
          obtain ⟨e1, e2⟩ := p9
          subst e2
          replace e1 := e1.symm
          subst e1
          change RN 185 176 _ _ _ 0 0 _
          dsimp only [Option.toList, List.cons_append, List.nil_append]
          refine r_if_eq (t := 184) hm rfl rfl (fun c176 => ?_) (fun c176 => ?_)
          · refine r_iload hm rfl (k := ?_)
            refine r_istore hm rfl (k := ?_)
            refine r_iinc hm rfl (hr := (by omega)) (k := ?_)
            refine r_goto (t := 157) hm rfl (k := ?_)
            have e0 : dfB x (ltR x H (r + 1)) (ltR x H q) ≠ false := fun z => by
              have c9 : (if dfB x (ltR x H (r + 1)) (ltR x H q) = false then (1 : Int) else 0) = 0 := c176
              rw [if_pos z] at c9
              omega
            have b9 := ih2 (d2 - 1) (by omega) (q + 1) (by omega)
            rw [show lkM x H r (q + 1) = lkM x H r q from if_neg e0] at b9
            exact b9
          · refine r_iload hm rfl (k := ?_)
            refine r_goto (t := 186) hm rfl (k := ?_)
            refine r_istore hm rfl (k := ?_)
            refine r_iinc hm rfl (hr := (by omega)) (k := ?_)
            refine r_goto (t := 157) hm rfl (k := ?_)
            have e0 : dfB x (ltR x H (r + 1)) (ltR x H q) = false := Decidable.byContradiction (fun z => c176 (if_neg z))
            
            
            
            have b9 := ih2 (d2 - 1) (by omega) (q + 1) (by omega)
            rw [show lkM x H r (q + 1) = (q : Int) from if_pos e0] at b9
            exact b9
    · have hi2 : i < x.1 := by omega
      obtain ⟨ep, ep2⟩ := pcs_eq hok hi2
      have hzz := fun k hk => hok.2.2.1 i k hi2 hk
      refine r_iconst hm rfl (k := ?_)
      refine r_istore hm rfl (k := ?_)
      suffices LP : ∀ (d2 k : Nat) (h1 : Hp) (z5 : Option Vl), k + d2 = pcs x i → Sm regM h h1 → h1.2.1 1085 12 = (c : Int) → h1.2.1 1085 29 = H → NmM h1 x x.1 → PmK h1 1103 0 x (lt0 x) i k → RN 185 44 [some (.inr (.inr (some 1085))), some (.inl (c : Int)), some (.inl ln), some (.inl (i : Int)), some (.inl (k : Int)), z5] [] h1 0 0 (fun v h2 => Sm regM h h2 ∧ SetM h2 c x H ∧ v = none) from LP (pcs x i) 0 _ _ (by omega) S1 hc1 e29 nA pL
      clear hc1 S1 nA e29
      refine fun d2 => Nat.strongRecOn d2 (fun d2 ih2 => ?_)
      intro k h1 z5 hd2 S1 hc1 e29 nA pL
      have g1 := S1.gg g
      have hR1 := S1.repM (fun a k z => regM_R z) hR
      obtain ⟨M0, M1, M2, M3, M4, Q0, Q1, Q2, S0, N0, N1⟩ := hR1.use
      refine r_iload hm rfl (k := ?_)
      refine r_aload_n hm rfl (k := ?_)
      refine r_iload_n hm rfl (k := ?_)
      refine r_callv (j2 := 181) hm rfl rfl rfl rfl rfl rfl (by first | assumption | exact (g1.1 _).trans rfl) (Nat.le_of_ble_eq_true rfl) (Nat.le_of_ble_eq_true rfl) rfl ⟨Nat.le_of_ble_eq_true rfl, Nat.le_of_ble_eq_true rfl, Nat.le_of_ble_eq_true rfl, Nat.le_of_ble_eq_true rfl, Nat.le_of_ble_eq_true rfl⟩ rfl (m_piecesOf g1 hc1 hc3 hR1 (i := i) (by omega)) (fun v9 h9 p9 => ?_)
      obtain ⟨e1, e2⟩ := p9
      subst e2
      replace e1 := e1.symm
      subst e1
      change RN 185 51 _ _ _ 0 0 _
      dsimp only [Option.toList, List.cons_append, List.nil_append]
      refine r_icmp_ge (t := 117) hm rfl rfl (fun c51 => ?_) (fun c51 => ?_)
      · refine r_iinc hm rfl (hr := (by omega)) (k := ?_)
        refine r_goto (t := 28) hm rfl (k := ?_)
        have ek : k = pcs x i := by omega
        subst ek
        exact ih (d - 1) (by omega) (i + 1) _ _ _ (by omega) S1 hc1 e29 nA pL.next
      · have hz := hzz k (by omega)
        unfold okPc at hz
        refine r_aload_n hm rfl (k := ?_)
        refine r_getR (hm := hm) (hf := rfl) (hd := rfl) (hs := (by first | assumption | exact (g1.1 _).trans rfl)) (hv := (by first | exact putI_eq | exact (putI_ne (by omega)).trans (by first | exact putI_eq | exact (putI_ne (by omega)).trans (by first | exact putI_eq | exact (putI_ne (by omega)).trans (by first | exact putI_eq | exact (putI_ne (by omega)).trans (by first | first | assumption | exact g1.2 _ _ _ rfl | exact Q0 _ _ (by omega) (by omega) | exact Q1 _ _ (by omega) (by omega) | exact Q2 _ _ (by omega) (by omega) | exact b36) | first | assumption | exact g1.2 _ _ _ rfl | exact Q0 _ _ (by omega) (by omega) | exact Q1 _ _ (by omega) (by omega) | exact Q2 _ _ (by omega) (by omega) | exact b36) | first | assumption | exact g1.2 _ _ _ rfl | exact Q0 _ _ (by omega) (by omega) | exact Q1 _ _ (by omega) (by omega) | exact Q2 _ _ (by omega) (by omega) | exact b36) | first | assumption | exact g1.2 _ _ _ rfl | exact Q0 _ _ (by omega) (by omega) | exact Q1 _ _ (by omega) (by omega) | exact Q2 _ _ (by omega) (by omega) | exact b36) | first | assumption | exact g1.2 _ _ _ rfl | exact Q0 _ _ (by omega) (by omega) | exact Q1 _ _ (by omega) (by omega) | exact Q2 _ _ (by omega) (by omega) | exact b36)) (k := ?_)
        refine r_aload_n hm rfl (k := ?_)
        refine r_iload_n hm rfl (k := ?_)
        refine r_iload hm rfl (k := ?_)
        refine r_callv (j2 := 186) hm rfl rfl rfl rfl rfl rfl (by first | assumption | exact (g1.1 _).trans rfl) (Nat.le_of_ble_eq_true rfl) (Nat.le_of_ble_eq_true rfl) rfl ⟨Nat.le_of_ble_eq_true rfl, Nat.le_of_ble_eq_true rfl, Nat.le_of_ble_eq_true rfl, Nat.le_of_ble_eq_true rfl, Nat.le_of_ble_eq_true rfl⟩ rfl (m_place g1 hc1 hc3 hR1 (i := i) (k := k) (by omega) (by omega)) (fun v9 h9 p9 => ?_)
        obtain ⟨e1, e2⟩ := p9
        subst e2
        replace e1 := e1.symm
        subst e1
        change RN 185 65 _ _ _ 0 0 _
        dsimp only [Option.toList, List.cons_append, List.nil_append]
        refine r_iald (hm := hm) (hf := rfl) (hs := (by first | assumption | exact (g1.1 _).trans rfl)) (hi := rfl) (hn := (by omega)) (hv := (by first | exact putI_eq | exact (putI_ne (by omega)).trans (by first | exact putI_eq | exact (putI_ne (by omega)).trans (by first | exact putI_eq | exact (putI_ne (by omega)).trans (by first | exact putI_eq | exact (putI_ne (by omega)).trans (by first | first | assumption | exact g1.2 _ _ _ rfl | exact Q0 _ _ (by omega) (by omega) | exact Q1 _ _ (by omega) (by omega) | exact Q2 _ _ (by omega) (by omega) | exact b36) | first | assumption | exact g1.2 _ _ _ rfl | exact Q0 _ _ (by omega) (by omega) | exact Q1 _ _ (by omega) (by omega) | exact Q2 _ _ (by omega) (by omega) | exact b36) | first | assumption | exact g1.2 _ _ _ rfl | exact Q0 _ _ (by omega) (by omega) | exact Q1 _ _ (by omega) (by omega) | exact Q2 _ _ (by omega) (by omega) | exact b36) | first | assumption | exact g1.2 _ _ _ rfl | exact Q0 _ _ (by omega) (by omega) | exact Q1 _ _ (by omega) (by omega) | exact Q2 _ _ (by omega) (by omega) | exact b36) | first | assumption | exact g1.2 _ _ _ rfl | exact Q0 _ _ (by omega) (by omega) | exact Q1 _ _ (by omega) (by omega) | exact Q2 _ _ (by omega) (by omega) | exact b36)) (k := ?_)
        refine r_istore hm rfl (k := ?_)
        refine r_aload_n hm rfl (k := ?_)
        refine r_getR (hm := hm) (hf := rfl) (hd := rfl) (hs := (by first | assumption | exact (g1.1 _).trans rfl)) (hv := (by first | exact putI_eq | exact (putI_ne (by omega)).trans (by first | exact putI_eq | exact (putI_ne (by omega)).trans (by first | exact putI_eq | exact (putI_ne (by omega)).trans (by first | exact putI_eq | exact (putI_ne (by omega)).trans (by first | first | assumption | exact g1.2 _ _ _ rfl | exact Q0 _ _ (by omega) (by omega) | exact Q1 _ _ (by omega) (by omega) | exact Q2 _ _ (by omega) (by omega) | exact b36) | first | assumption | exact g1.2 _ _ _ rfl | exact Q0 _ _ (by omega) (by omega) | exact Q1 _ _ (by omega) (by omega) | exact Q2 _ _ (by omega) (by omega) | exact b36) | first | assumption | exact g1.2 _ _ _ rfl | exact Q0 _ _ (by omega) (by omega) | exact Q1 _ _ (by omega) (by omega) | exact Q2 _ _ (by omega) (by omega) | exact b36) | first | assumption | exact g1.2 _ _ _ rfl | exact Q0 _ _ (by omega) (by omega) | exact Q1 _ _ (by omega) (by omega) | exact Q2 _ _ (by omega) (by omega) | exact b36) | first | assumption | exact g1.2 _ _ _ rfl | exact Q0 _ _ (by omega) (by omega) | exact Q1 _ _ (by omega) (by omega) | exact Q2 _ _ (by omega) (by omega) | exact b36)) (k := ?_)
        refine r_bipush hm rfl (k := ?_)
        refine r_iload_n hm rfl (k := ?_)
        refine r_imul hm rfl (hr := (by omega)) (k := ?_)
        refine r_iload hm rfl (k := ?_)
        refine r_iadd hm rfl (hr := (by omega)) (k := ?_)
        refine r_iload hm rfl (k := ?_)
        refine r_if_ne (t := 99) hm rfl rfl (fun c81 => ?_) (fun c81 => ?_)
        · refine r_iload hm rfl (k := ?_)
          refine r_iconst hm rfl (k := ?_)
          refine r_icmp_ne (t := 109) hm rfl rfl (fun c102 => ?_) (fun c102 => ?_)
          · refine r_iconst hm rfl (k := ?_)
            refine r_iast (hm := hm) (hf := rfl) (h28 := (by omega)) (hs := (by first | assumption | exact (g1.1 _).trans rfl)) (kk := 20 * i + k) (hi := by omega) (hn := (by omega)) (k := ?_)
            refine r_iinc hm rfl (hr := (by omega)) (k := ?_)
            refine r_goto (t := 44) hm rfl (k := ?_)
            refine ih2 (d2 - 1) (by omega) (k + 1) _ _ (by omega) (Sm.put S1 (by unfold regM; omega)) ((putI_ne (by omega)).trans hc1) ((putI_ne (by omega)).trans e29) (nA.keep (Sm.put (S := fun a k => a = 1103) Sm.refl rfl) (fun a k z => by omega)) (pL.put hok hi2 (by omega) ?_)
            unfold lt0
            rw [if_neg (by omega), if_pos (by omega)]
          · refine r_iconst hm rfl (k := ?_)
            refine r_goto (t := 110) hm rfl (k := ?_)
            refine r_iast (hm := hm) (hf := rfl) (h28 := (by omega)) (hs := (by first | assumption | exact (g1.1 _).trans rfl)) (kk := 20 * i + k) (hi := by omega) (hn := (by omega)) (k := ?_)
            refine r_iinc hm rfl (hr := (by omega)) (k := ?_)
            refine r_goto (t := 44) hm rfl (k := ?_)
            refine ih2 (d2 - 1) (by omega) (k + 1) _ _ (by omega) (Sm.put S1 (by unfold regM; omega)) ((putI_ne (by omega)).trans hc1) ((putI_ne (by omega)).trans e29) (nA.keep (Sm.put (S := fun a k => a = 1103) Sm.refl rfl) (fun a k z => by omega)) (pL.put hok hi2 (by omega) ?_)
            unfold lt0
            rw [if_pos (by omega)]
        · refine r_aload_n hm rfl (k := ?_)
          refine r_getR (hm := hm) (hf := rfl) (hd := rfl) (hs := (by first | assumption | exact (g1.1 _).trans rfl)) (hv := (by first | exact putI_eq | exact (putI_ne (by omega)).trans (by first | exact putI_eq | exact (putI_ne (by omega)).trans (by first | exact putI_eq | exact (putI_ne (by omega)).trans (by first | exact putI_eq | exact (putI_ne (by omega)).trans (by first | first | assumption | exact g1.2 _ _ _ rfl | exact Q0 _ _ (by omega) (by omega) | exact Q1 _ _ (by omega) (by omega) | exact Q2 _ _ (by omega) (by omega) | exact b36) | first | assumption | exact g1.2 _ _ _ rfl | exact Q0 _ _ (by omega) (by omega) | exact Q1 _ _ (by omega) (by omega) | exact Q2 _ _ (by omega) (by omega) | exact b36) | first | assumption | exact g1.2 _ _ _ rfl | exact Q0 _ _ (by omega) (by omega) | exact Q1 _ _ (by omega) (by omega) | exact Q2 _ _ (by omega) (by omega) | exact b36) | first | assumption | exact g1.2 _ _ _ rfl | exact Q0 _ _ (by omega) (by omega) | exact Q1 _ _ (by omega) (by omega) | exact Q2 _ _ (by omega) (by omega) | exact b36) | first | assumption | exact g1.2 _ _ _ rfl | exact Q0 _ _ (by omega) (by omega) | exact Q1 _ _ (by omega) (by omega) | exact Q2 _ _ (by omega) (by omega) | exact b36)) (k := ?_)
          refine r_aload_n hm rfl (k := ?_)
          refine r_iload_n hm rfl (k := ?_)
          refine r_iload hm rfl (k := ?_)
          refine r_callv (j2 := 186) hm rfl rfl rfl rfl rfl rfl (by first | assumption | exact (g1.1 _).trans rfl) (Nat.le_of_ble_eq_true rfl) (Nat.le_of_ble_eq_true rfl) rfl ⟨Nat.le_of_ble_eq_true rfl, Nat.le_of_ble_eq_true rfl, Nat.le_of_ble_eq_true rfl, Nat.le_of_ble_eq_true rfl, Nat.le_of_ble_eq_true rfl⟩ rfl (m_place g1 hc1 hc3 hR1 (i := i) (k := k) (by omega) (by omega)) (fun v9 h9 p9 => ?_)
          obtain ⟨e1, e2⟩ := p9
          subst e2
          replace e1 := e1.symm
          subst e1
          change RN 185 95 _ _ _ 0 0 _
          dsimp only [Option.toList, List.cons_append, List.nil_append]
          refine r_iald (hm := hm) (hf := rfl) (hs := (by first | assumption | exact (g1.1 _).trans rfl)) (hi := rfl) (hn := (by omega)) (hv := (by first | exact putI_eq | exact (putI_ne (by omega)).trans (by first | exact putI_eq | exact (putI_ne (by omega)).trans (by first | exact putI_eq | exact (putI_ne (by omega)).trans (by first | exact putI_eq | exact (putI_ne (by omega)).trans (by first | first | assumption | exact g1.2 _ _ _ rfl | exact Q0 _ _ (by omega) (by omega) | exact Q1 _ _ (by omega) (by omega) | exact Q2 _ _ (by omega) (by omega) | exact b36) | first | assumption | exact g1.2 _ _ _ rfl | exact Q0 _ _ (by omega) (by omega) | exact Q1 _ _ (by omega) (by omega) | exact Q2 _ _ (by omega) (by omega) | exact b36) | first | assumption | exact g1.2 _ _ _ rfl | exact Q0 _ _ (by omega) (by omega) | exact Q1 _ _ (by omega) (by omega) | exact Q2 _ _ (by omega) (by omega) | exact b36) | first | assumption | exact g1.2 _ _ _ rfl | exact Q0 _ _ (by omega) (by omega) | exact Q1 _ _ (by omega) (by omega) | exact Q2 _ _ (by omega) (by omega) | exact b36) | first | assumption | exact g1.2 _ _ _ rfl | exact Q0 _ _ (by omega) (by omega) | exact Q1 _ _ (by omega) (by omega) | exact Q2 _ _ (by omega) (by omega) | exact b36)) (k := ?_)
          refine r_goto (t := 110) hm rfl (k := ?_)
          refine r_iast (hm := hm) (hf := rfl) (h28 := (by omega)) (hs := (by first | assumption | exact (g1.1 _).trans rfl)) (kk := 20 * i + k) (hi := by omega) (hn := (by omega)) (k := ?_)
          refine r_iinc hm rfl (hr := (by omega)) (k := ?_)
          refine r_goto (t := 44) hm rfl (k := ?_)
          refine ih2 (d2 - 1) (by omega) (k + 1) _ _ (by omega) (Sm.put S1 (by unfold regM; omega)) ((putI_ne (by omega)).trans hc1) ((putI_ne (by omega)).trans e29) (nA.keep (Sm.put (S := fun a k => a = 1103) Sm.refl rfl) (fun a k z => by omega)) (pL.put hok hi2 (by omega) ?_)
          unfold lt0
          rw [if_neg (by omega), if_neg (by omega)]
  · refine r_aload_n hm rfl (k := ?_)
    refine r_iconst hm rfl (k := ?_)
    refine r_callv (j2 := 176) hm rfl rfl rfl rfl rfl rfl (by first | assumption | exact (g1.1 _).trans rfl) (Nat.le_of_ble_eq_true rfl) (Nat.le_of_ble_eq_true rfl) rfl ⟨Nat.le_of_ble_eq_true rfl, Nat.le_of_ble_eq_true rfl, Nat.le_of_ble_eq_true rfl, Nat.le_of_ble_eq_true rfl, Nat.le_of_ble_eq_true rfl⟩ rfl (m_rule g1 hc1 hc3 hR1 (i := 0) (by omega)) (fun v9 h9 p9 => ?_)
    obtain ⟨e1, e2⟩ := p9
    subst e2
    replace e1 := e1.symm
    subst e1
    change RN 185 19 _ _ _ 0 0 _
    dsimp only [Option.toList, List.cons_append, List.nil_append]
    refine r_goto (t := 23) hm rfl (k := ?_)
    refine r_putI (hm := hm) (hf := rfl) (hd := rfl) (hs := (by first | assumption | exact (g1.1 _).trans rfl)) (hfin := Or.inl rfl) (hz := fun q9 => absurd q9 (by decide)) (k := ?_)
    have eHH : x.2.2.2 0 = H := by rw [hHd]; first | (rw [if_pos (by omega)]; done) | (rw [if_neg (by omega)]; done)
    refine RN.abs (fun h1 => Sm regM h h1 ∧ h1.2.1 1085 12 = (c : Int) ∧ h1.2.1 1085 29 = H ∧ NmM h1 x x.1) ⟨Sm.put S1 (by unfold regM; omega), (putI_ne (by omega)).trans hc1, putI_eq.trans eHH, nA.keep (Sm.put (S := fun a k => a = 1085) Sm.refl rfl) (fun a k z => by omega)⟩ (fun h1 H9 => ?_)
    clear hc1 S1 nA
    obtain ⟨S1, hc1, e29, nA⟩ := H9
    have g1 := S1.gg g
    have hR1 := S1.repM (fun a k z => regM_R z) hR
    obtain ⟨M0, M1, M2, M3, M4, Q0, Q1, Q2, S0, N0, N1⟩ := hR1.use
    refine r_iconst hm rfl (k := ?_)
    refine r_istore_n hm rfl (k := ?_)
    suffices LP : ∀ (d i : Nat) (h1 : Hp) (z4 z5 : Option Vl), i + d = x.1 → Sm regM h h1 → h1.2.1 1085 12 = (c : Int) → h1.2.1 1085 29 = H → NmM h1 x x.1 → PmK h1 1103 0 x (lt0 x) i 0 → RN 185 28 [some (.inr (.inr (some 1085))), some (.inl (c : Int)), some (.inl ln), some (.inl (i : Int)), z4, z5] [] h1 0 0 (fun v h2 => Sm regM h h2 ∧ SetM h2 c x H ∧ v = none) from LP x.1 0 _ _ _ (by omega) S1 hc1 e29 nA PmK.nil
    clear hc1 S1 nA e29
    refine fun d => Nat.strongRecOn d (fun d ih => ?_)
    intro i h1 z4 z5 hd S1 hc1 e29 nA pL
    have g1 := S1.gg g
    have hR1 := S1.repM (fun a k z => regM_R z) hR
    obtain ⟨M0, M1, M2, M3, M4, Q0, Q1, Q2, S0, N0, N1⟩ := hR1.use
    refine r_iload_n hm rfl (k := ?_)
    refine r_aload_n hm rfl (k := ?_)
    refine r_getR (hm := hm) (hf := rfl) (hd := rfl) (hs := (by first | assumption | exact (g1.1 _).trans rfl)) (hv := (by first | exact putI_eq | exact (putI_ne (by omega)).trans (by first | exact putI_eq | exact (putI_ne (by omega)).trans (by first | exact putI_eq | exact (putI_ne (by omega)).trans (by first | exact putI_eq | exact (putI_ne (by omega)).trans (by first | first | assumption | exact g1.2 _ _ _ rfl | exact Q0 _ _ (by omega) (by omega) | exact Q1 _ _ (by omega) (by omega) | exact Q2 _ _ (by omega) (by omega) | exact b36) | first | assumption | exact g1.2 _ _ _ rfl | exact Q0 _ _ (by omega) (by omega) | exact Q1 _ _ (by omega) (by omega) | exact Q2 _ _ (by omega) (by omega) | exact b36) | first | assumption | exact g1.2 _ _ _ rfl | exact Q0 _ _ (by omega) (by omega) | exact Q1 _ _ (by omega) (by omega) | exact Q2 _ _ (by omega) (by omega) | exact b36) | first | assumption | exact g1.2 _ _ _ rfl | exact Q0 _ _ (by omega) (by omega) | exact Q1 _ _ (by omega) (by omega) | exact Q2 _ _ (by omega) (by omega) | exact b36) | first | assumption | exact g1.2 _ _ _ rfl | exact Q0 _ _ (by omega) (by omega) | exact Q1 _ _ (by omega) (by omega) | exact Q2 _ _ (by omega) (by omega) | exact b36)) (k := ?_)
    refine r_aload_n hm rfl (k := ?_)
    refine r_getI (hm := hm) (hf := rfl) (hd := rfl) (hs := (by first | assumption | exact (g1.1 _).trans rfl)) (hv := (by first | exact putI_eq | exact (putI_ne (by omega)).trans (by first | exact putI_eq | exact (putI_ne (by omega)).trans (by first | exact putI_eq | exact (putI_ne (by omega)).trans (by first | exact putI_eq | exact (putI_ne (by omega)).trans (by first | first | assumption | exact g1.2 _ _ _ rfl | exact Q0 _ _ (by omega) (by omega) | exact Q1 _ _ (by omega) (by omega) | exact Q2 _ _ (by omega) (by omega) | exact b36) | first | assumption | exact g1.2 _ _ _ rfl | exact Q0 _ _ (by omega) (by omega) | exact Q1 _ _ (by omega) (by omega) | exact Q2 _ _ (by omega) (by omega) | exact b36) | first | assumption | exact g1.2 _ _ _ rfl | exact Q0 _ _ (by omega) (by omega) | exact Q1 _ _ (by omega) (by omega) | exact Q2 _ _ (by omega) (by omega) | exact b36) | first | assumption | exact g1.2 _ _ _ rfl | exact Q0 _ _ (by omega) (by omega) | exact Q1 _ _ (by omega) (by omega) | exact Q2 _ _ (by omega) (by omega) | exact b36) | first | assumption | exact g1.2 _ _ _ rfl | exact Q0 _ _ (by omega) (by omega) | exact Q1 _ _ (by omega) (by omega) | exact Q2 _ _ (by omega) (by omega) | exact b36)) (k := ?_)
    refine r_iald (hm := hm) (hf := rfl) (hs := (by first | assumption | exact (g1.1 _).trans rfl)) (kk := c) (hi := by omega) (hn := (by omega)) (hv := (by first | exact putI_eq | exact (putI_ne (by omega)).trans (by first | exact putI_eq | exact (putI_ne (by omega)).trans (by first | exact putI_eq | exact (putI_ne (by omega)).trans (by first | exact putI_eq | exact (putI_ne (by omega)).trans (by first | first | assumption | exact g1.2 _ _ _ rfl | exact Q0 _ _ (by omega) (by omega) | exact Q1 _ _ (by omega) (by omega) | exact Q2 _ _ (by omega) (by omega) | exact b36) | first | assumption | exact g1.2 _ _ _ rfl | exact Q0 _ _ (by omega) (by omega) | exact Q1 _ _ (by omega) (by omega) | exact Q2 _ _ (by omega) (by omega) | exact b36) | first | assumption | exact g1.2 _ _ _ rfl | exact Q0 _ _ (by omega) (by omega) | exact Q1 _ _ (by omega) (by omega) | exact Q2 _ _ (by omega) (by omega) | exact b36) | first | assumption | exact g1.2 _ _ _ rfl | exact Q0 _ _ (by omega) (by omega) | exact Q1 _ _ (by omega) (by omega) | exact Q2 _ _ (by omega) (by omega) | exact b36) | first | assumption | exact g1.2 _ _ _ rfl | exact Q0 _ _ (by omega) (by omega) | exact Q1 _ _ (by omega) (by omega) | exact Q2 _ _ (by omega) (by omega) | exact b36)) (k := ?_)
    refine r_icmp_ge (t := 123) hm rfl rfl (fun c38 => ?_) (fun c38 => ?_)
    · refine r_aload_n hm rfl (k := ?_)
      refine r_iconst hm rfl (k := ?_)
      refine r_putI (hm := hm) (hf := rfl) (hd := rfl) (hs := (by first | assumption | exact (g1.1 _).trans rfl)) (hfin := Or.inl rfl) (hz := fun q9 => absurd q9 (by decide)) (k := ?_)
      refine r_aload_n hm rfl (k := ?_)
      refine r_iconst hm rfl (k := ?_)
      refine r_putI (hm := hm) (hf := rfl) (hd := rfl) (hs := (by first | assumption | exact (g1.1 _).trans rfl)) (hfin := Or.inl rfl) (hz := fun q9 => absurd q9 (by decide)) (k := ?_)
      refine r_iconst hm rfl (k := ?_)
      refine r_istore_n hm rfl (k := ?_)
      have ei : i = x.1 := by omega
      subst ei
      suffices LP : ∀ (d r : Nat) (h1 : Hp) (z4 z5 : Option Vl), r + d = 11 → Sm regM h h1 → h1.2.1 1085 12 = (c : Int) → BsM h1 x H r → rnd x H (11 - r) r = fin x H → RN 185 135 [some (.inr (.inr (some 1085))), some (.inl (c : Int)), some (.inl ln), some (.inl 1), z4, z5] [] h1 0 0 (fun v h2 => Sm regM h h2 ∧ SetM h2 c x H ∧ v = none) from LP 11 0 _ _ _ rfl (Sm.put (Sm.put S1 (by unfold regM; omega)) (by unfold regM; omega)) ((putI_ne (by omega)).trans ((putI_ne (by omega)).trans hc1)) ⟨(putI_ne (by omega)).trans putI_eq, (putI_ne (by omega)).trans ((putI_ne (by omega)).trans e29), nA.keep (Sm.put (S := fun a k => a = 1085) (Sm.put Sm.refl rfl) rfl) (fun a k z => by omega), fun q hq => by rw [show q = 0 by omega]; exact (pL.ne (by omega)).ne (by omega), fun q hq => absurd hq (Nat.not_lt_zero _)⟩ rfl
      clear hc1 S1 nA e29 pL ih
      refine fun d => Nat.strongRecOn d (fun d ih => ?_)
      intro r h1 z4 z5 hd S1 hc1 bs hfin
      have g1 := S1.gg g
      have hR1 := S1.repM (fun a k z => regM_R z) hR
      obtain ⟨M0, M1, M2, M3, M4, Q0, Q1, Q2, S0, N0, N1⟩ := hR1.use
      obtain ⟨b36, b29, bN, bL, bP⟩ := id bs
      have qR := m_setRound g1 hc1 hc3 hR1 hok (ltR_ok hok r) (r := r) (by omega) (fun q k hq hk => (bL r (Nat.le_refl _)).1 q k hq hk) hH b29
      refine r_iload_n hm rfl (k := ?_)
      refine r_if_eq (t := 326) hm rfl rfl (fun c136 => ?_) (fun c136 => ?_)
      · exfalso; omega
      · refine r_aload_n hm rfl (k := ?_)
        refine r_aload_n hm rfl (k := ?_)
        refine r_getI (hm := hm) (hf := rfl) (hd := rfl) (hs := (by first | assumption | exact (g1.1 _).trans rfl)) (hv := (by first | exact putI_eq | exact (putI_ne (by omega)).trans (by first | exact putI_eq | exact (putI_ne (by omega)).trans (by first | exact putI_eq | exact (putI_ne (by omega)).trans (by first | exact putI_eq | exact (putI_ne (by omega)).trans (by first | first | assumption | exact g1.2 _ _ _ rfl | exact Q0 _ _ (by omega) (by omega) | exact Q1 _ _ (by omega) (by omega) | exact Q2 _ _ (by omega) (by omega) | exact b36) | first | assumption | exact g1.2 _ _ _ rfl | exact Q0 _ _ (by omega) (by omega) | exact Q1 _ _ (by omega) (by omega) | exact Q2 _ _ (by omega) (by omega) | exact b36) | first | assumption | exact g1.2 _ _ _ rfl | exact Q0 _ _ (by omega) (by omega) | exact Q1 _ _ (by omega) (by omega) | exact Q2 _ _ (by omega) (by omega) | exact b36) | first | assumption | exact g1.2 _ _ _ rfl | exact Q0 _ _ (by omega) (by omega) | exact Q1 _ _ (by omega) (by omega) | exact Q2 _ _ (by omega) (by omega) | exact b36) | first | assumption | exact g1.2 _ _ _ rfl | exact Q0 _ _ (by omega) (by omega) | exact Q1 _ _ (by omega) (by omega) | exact Q2 _ _ (by omega) (by omega) | exact b36)) (k := ?_)
        refine r_callv (j2 := 187) hm rfl rfl rfl rfl rfl rfl (by first | assumption | exact (g1.1 _).trans rfl) (Nat.le_of_ble_eq_true rfl) (Nat.le_of_ble_eq_true rfl) rfl ⟨Nat.le_of_ble_eq_true rfl, Nat.le_of_ble_eq_true rfl, Nat.le_of_ble_eq_true rfl, Nat.le_of_ble_eq_true rfl, Nat.le_of_ble_eq_true rfl⟩ rfl (qR) (fun v9 hA p9 => ?_)
        obtain ⟨SA, hqA, yA, ePA, e1⟩ := p9
        subst e1
        replace hc1 : hA.2.1 1085 12 = (c : Int) := (SA.2.2 _ _ (by unfold regW; omega)).trans hc1
        have b36 : hA.2.1 1085 36 = (r : Int) := (SA.2.2 _ _ (by unfold regW; omega)).trans b36
        have b29A : hA.2.1 1085 29 = H := hqA.2.1
        have bsA : BsM hA x H r := ⟨b36, b29A, bN.keep SA (fun a k z => by unfold regW at z; omega), fun q hq => (bL q hq).same SA (fun a k z => by unfold regW at z; omega), fun q hq => (SA.2.2 _ _ (by unfold regW; omega)).trans (bP q hq)⟩
        replace S1 : Sm regM h hA := S1.trans (SA.mono (fun a k z => by unfold regW at z; unfold regM; omega))
        have g1 := S1.gg g
        have hR1 := S1.repM (fun a k z => regM_R z) hR
        obtain ⟨M0, M1, M2, M3, M4, Q0, Q1, Q2, S0, N0, N1⟩ := hR1.use
        have qN := m_findNext g1 hc1 hc3 hR1 hok (ltR_ok hok r) hH hqA yA bsA.2.2.1
        change RN 185 147 _ _ _ 0 0 _
        dsimp only [Option.toList, List.nil_append]
        refine r_aload_n hm rfl (k := ?_)
        refine r_callv (j2 := 196) hm rfl rfl rfl rfl rfl rfl (by first | assumption | exact (g1.1 _).trans rfl) (Nat.le_of_ble_eq_true rfl) (Nat.le_of_ble_eq_true rfl) rfl ⟨Nat.le_of_ble_eq_true rfl, Nat.le_of_ble_eq_true rfl, Nat.le_of_ble_eq_true rfl, Nat.le_of_ble_eq_true rfl, Nat.le_of_ble_eq_true rfl⟩ rfl (qN) (fun v9 hB p9 => ?_)
        obtain ⟨SB, nB, xB, e1⟩ := p9
        subst e1
        replace hc1 : hB.2.1 1085 12 = (c : Int) := (SB.2.2 _ _ (by omega)).trans hc1
        replace bsA := bsA.same SB (fun a k z => by omega)
        replace hqA := hqA.same SB (fun a k z => by unfold regW; omega)
        replace yA := yA.same SB (fun a k z => by omega)
        replace ePA : hB.2.1 1111 r = pgs x H r := (SB.2.2 _ _ (by omega)).trans ePA
        replace S1 : Sm regM h hB := S1.trans (SB.mono (fun a k z => by unfold regM; omega))
        have g1 := S1.gg g
        have hR1 := S1.repM (fun a k z => regM_R z) hR
        obtain ⟨M0, M1, M2, M3, M4, Q0, Q1, Q2, S0, N0, N1⟩ := hR1.use
        obtain ⟨b36, b29, bN, bL, bP⟩ := id bsA
        change RN 185 151 _ _ _ 0 0 _
        dsimp only [Option.toList, List.nil_append]
        refine r_iconst hm rfl (k := ?_)
        refine r_istore hm rfl (k := ?_)
        refine r_iconst hm rfl (k := ?_)
        refine r_istore hm rfl (k := ?_)
        suffices LP : ∀ (d2 q : Nat), q + d2 = r + 1 → RN 185 157 [some (.inr (.inr (some 1085))), some (.inl (c : Int)), some (.inl ln), some (.inl 1), some (.inl (lkM x H r q)), some (.inl (q : Int))] [] hB 0 0 (fun v h2 => Sm regM h h2 ∧ SetM h2 c x H ∧ v = none) from LP (r + 1) 0 (by omega)
        refine fun d2 => Nat.strongRecOn d2 (fun d2 ih2 => ?_)
        intro q hd2
        have lr := lkM_rng (x := x) (H := H) (r := r) q
        refine r_iload hm rfl (k := ?_)
        refine r_aload_n hm rfl (k := ?_)
        refine r_getI (hm := hm) (hf := rfl) (hd := rfl) (hs := (by first | assumption | exact (g1.1 _).trans rfl)) (hv := (by first | exact putI_eq | exact (putI_ne (by omega)).trans (by first | exact putI_eq | exact (putI_ne (by omega)).trans (by first | exact putI_eq | exact (putI_ne (by omega)).trans (by first | exact putI_eq | exact (putI_ne (by omega)).trans (by first | first | assumption | exact g1.2 _ _ _ rfl | exact Q0 _ _ (by omega) (by omega) | exact Q1 _ _ (by omega) (by omega) | exact Q2 _ _ (by omega) (by omega) | exact b36) | first | assumption | exact g1.2 _ _ _ rfl | exact Q0 _ _ (by omega) (by omega) | exact Q1 _ _ (by omega) (by omega) | exact Q2 _ _ (by omega) (by omega) | exact b36) | first | assumption | exact g1.2 _ _ _ rfl | exact Q0 _ _ (by omega) (by omega) | exact Q1 _ _ (by omega) (by omega) | exact Q2 _ _ (by omega) (by omega) | exact b36) | first | assumption | exact g1.2 _ _ _ rfl | exact Q0 _ _ (by omega) (by omega) | exact Q1 _ _ (by omega) (by omega) | exact Q2 _ _ (by omega) (by omega) | exact b36) | first | assumption | exact g1.2 _ _ _ rfl | exact Q0 _ _ (by omega) (by omega) | exact Q1 _ _ (by omega) (by omega) | exact Q2 _ _ (by omega) (by omega) | exact b36)) (k := ?_)
        refine r_icmp_gt (t := 194) hm rfl rfl (fun c163 => ?_) (fun c163 => ?_)
        · have eq9 : q = r + 1 := by omega
          subst eq9
          have elk : lkM x H r (r + 1) = lik x H r := rfl
          rw [elk] at lr ⊢
          refine r_aload_n hm rfl (k := ?_)
          refine r_iload hm rfl (k := ?_)
          refine r_aload_n hm rfl (k := ?_)
          refine r_getI (hm := hm) (hf := rfl) (hd := rfl) (hs := (by first | assumption | exact (g1.1 _).trans rfl)) (hv := (by first | exact putI_eq | exact (putI_ne (by omega)).trans (by first | exact putI_eq | exact (putI_ne (by omega)).trans (by first | exact putI_eq | exact (putI_ne (by omega)).trans (by first | exact putI_eq | exact (putI_ne (by omega)).trans (by first | first | assumption | exact g1.2 _ _ _ rfl | exact Q0 _ _ (by omega) (by omega) | exact Q1 _ _ (by omega) (by omega) | exact Q2 _ _ (by omega) (by omega) | exact b36) | first | assumption | exact g1.2 _ _ _ rfl | exact Q0 _ _ (by omega) (by omega) | exact Q1 _ _ (by omega) (by omega) | exact Q2 _ _ (by omega) (by omega) | exact b36) | first | assumption | exact g1.2 _ _ _ rfl | exact Q0 _ _ (by omega) (by omega) | exact Q1 _ _ (by omega) (by omega) | exact Q2 _ _ (by omega) (by omega) | exact b36) | first | assumption | exact g1.2 _ _ _ rfl | exact Q0 _ _ (by omega) (by omega) | exact Q1 _ _ (by omega) (by omega) | exact Q2 _ _ (by omega) (by omega) | exact b36) | first | assumption | exact g1.2 _ _ _ rfl | exact Q0 _ _ (by omega) (by omega) | exact Q1 _ _ (by omega) (by omega) | exact Q2 _ _ (by omega) (by omega) | exact b36)) (k := ?_)
          refine r_icmp_ne (t := 208) hm rfl rfl (fun c201 => ?_) (fun c201 => ?_)
          · refine r_iload hm rfl (k := ?_)
            refine r_if_lt (t := 217) hm rfl rfl (fun c210 => ?_) (fun c210 => ?_)
            · refine r_iconst hm rfl (k := ?_)
              refine r_putI (hm := hm) (hf := rfl) (hd := rfl) (hs := (by first | assumption | exact (g1.1 _).trans rfl)) (hfin := Or.inl rfl) (hz := fun q9 => absurd q9 (by decide)) (k := ?_)
              refine r_aload_n hm rfl (k := ?_)
              refine r_aload_n hm rfl (k := ?_)
              refine r_getI (hm := hm) (hf := rfl) (hd := rfl) (hs := (by first | assumption | exact (g1.1 _).trans rfl)) (hv := (by first | exact putI_eq | exact (putI_ne (by omega)).trans (by first | exact putI_eq | exact (putI_ne (by omega)).trans (by first | exact putI_eq | exact (putI_ne (by omega)).trans (by first | exact putI_eq | exact (putI_ne (by omega)).trans (by first | first | assumption | exact g1.2 _ _ _ rfl | exact Q0 _ _ (by omega) (by omega) | exact Q1 _ _ (by omega) (by omega) | exact Q2 _ _ (by omega) (by omega) | exact b36) | first | assumption | exact g1.2 _ _ _ rfl | exact Q0 _ _ (by omega) (by omega) | exact Q1 _ _ (by omega) (by omega) | exact Q2 _ _ (by omega) (by omega) | exact b36) | first | assumption | exact g1.2 _ _ _ rfl | exact Q0 _ _ (by omega) (by omega) | exact Q1 _ _ (by omega) (by omega) | exact Q2 _ _ (by omega) (by omega) | exact b36) | first | assumption | exact g1.2 _ _ _ rfl | exact Q0 _ _ (by omega) (by omega) | exact Q1 _ _ (by omega) (by omega) | exact Q2 _ _ (by omega) (by omega) | exact b36) | first | assumption | exact g1.2 _ _ _ rfl | exact Q0 _ _ (by omega) (by omega) | exact Q1 _ _ (by omega) (by omega) | exact Q2 _ _ (by omega) (by omega) | exact b36)) (k := ?_)
              refine r_iconst hm rfl (k := ?_)
              refine r_icmp_ne (t := 242) hm rfl rfl (fun c227 => ?_) (fun c227 => ?_)
              · refine r_iconst hm rfl (k := ?_)
                refine r_putI (hm := hm) (hf := rfl) (hd := rfl) (hs := (by first | assumption | exact (g1.1 _).trans rfl)) (hfin := Or.inl rfl) (hz := fun q9 => absurd q9 (by decide)) (k := ?_)
                refine r_aload_n hm rfl (k := ?_)
                refine r_getI (hm := hm) (hf := rfl) (hd := rfl) (hs := (by first | assumption | exact (g1.1 _).trans rfl)) (hv := (by first | exact putI_eq | exact (putI_ne (by omega)).trans (by first | exact putI_eq | exact (putI_ne (by omega)).trans (by first | exact putI_eq | exact (putI_ne (by omega)).trans (by first | exact putI_eq | exact (putI_ne (by omega)).trans (by first | first | assumption | exact g1.2 _ _ _ rfl | exact Q0 _ _ (by omega) (by omega) | exact Q1 _ _ (by omega) (by omega) | exact Q2 _ _ (by omega) (by omega) | exact b36) | first | assumption | exact g1.2 _ _ _ rfl | exact Q0 _ _ (by omega) (by omega) | exact Q1 _ _ (by omega) (by omega) | exact Q2 _ _ (by omega) (by omega) | exact b36) | first | assumption | exact g1.2 _ _ _ rfl | exact Q0 _ _ (by omega) (by omega) | exact Q1 _ _ (by omega) (by omega) | exact Q2 _ _ (by omega) (by omega) | exact b36) | first | assumption | exact g1.2 _ _ _ rfl | exact Q0 _ _ (by omega) (by omega) | exact Q1 _ _ (by omega) (by omega) | exact Q2 _ _ (by omega) (by omega) | exact b36) | first | assumption | exact g1.2 _ _ _ rfl | exact Q0 _ _ (by omega) (by omega) | exact Q1 _ _ (by omega) (by omega) | exact Q2 _ _ (by omega) (by omega) | exact b36)) (k := ?_)
                refine r_iconst hm rfl (k := ?_)
                refine r_icmp_ne (t := 267) hm rfl rfl (fun c251 => ?_) (fun c251 => ?_)
                · exfalso; omega
                · refine r_aload_n hm rfl (k := ?_)
                  refine r_getI (hm := hm) (hf := rfl) (hd := rfl) (hs := (by first | assumption | exact (g1.1 _).trans rfl)) (hv := (by first | exact putI_eq | exact (putI_ne (by omega)).trans (by first | exact putI_eq | exact (putI_ne (by omega)).trans (by first | exact putI_eq | exact (putI_ne (by omega)).trans (by first | exact putI_eq | exact (putI_ne (by omega)).trans (by first | first | assumption | exact g1.2 _ _ _ rfl | exact Q0 _ _ (by omega) (by omega) | exact Q1 _ _ (by omega) (by omega) | exact Q2 _ _ (by omega) (by omega) | exact b36) | first | assumption | exact g1.2 _ _ _ rfl | exact Q0 _ _ (by omega) (by omega) | exact Q1 _ _ (by omega) (by omega) | exact Q2 _ _ (by omega) (by omega) | exact b36) | first | assumption | exact g1.2 _ _ _ rfl | exact Q0 _ _ (by omega) (by omega) | exact Q1 _ _ (by omega) (by omega) | exact Q2 _ _ (by omega) (by omega) | exact b36) | first | assumption | exact g1.2 _ _ _ rfl | exact Q0 _ _ (by omega) (by omega) | exact Q1 _ _ (by omega) (by omega) | exact Q2 _ _ (by omega) (by omega) | exact b36) | first | assumption | exact g1.2 _ _ _ rfl | exact Q0 _ _ (by omega) (by omega) | exact Q1 _ _ (by omega) (by omega) | exact Q2 _ _ (by omega) (by omega) | exact b36)) (k := ?_)
                  refine r_bipush hm rfl (k := ?_)
                  refine r_icmp_ge (t := 267) hm rfl rfl (fun c260 => ?_) (fun c260 => ?_)
                  · refine r_iconst hm rfl (k := ?_)
                    refine r_istore_n hm rfl (k := ?_)
                    refine r_iload_n hm rfl (k := ?_)
                    refine r_if_eq (t := 323) hm rfl rfl (fun c270 => ?_) (fun c270 => ?_)
                    · refine r_goto (t := 135) hm rfl (k := ?_)
                      refine r_iload_n hm rfl (k := ?_)
                      refine r_if_eq (t := 326) hm rfl rfl (fun c136 => ?_) (fun c136 => ?_)
                      · refine r_return hm rfl rfl (Nat.le_of_ble_eq_true rfl) (Nat.le_of_ble_eq_true rfl) ?_
                        have ef : fin x H = r := by rw [← hfin, show r = 11 by omega]; rfl
                        have SY : Sm (fun a k => a = 1085 ∧ (k = 35 ∨ k = 37)) hB (putI (putI hB 1085 35 2) 1085 37 0) := Sm.put (Sm.put Sm.refl (by omega)) (by omega)
                        refine ⟨S1.trans (SY.mono (fun a k z => by unfold regM; omega)), ?_, rfl⟩
                        unfold SetM
                        rw [ef]
                        refine ⟨(SY.2.2 _ _ (by omega)).trans hc1, ?_, (SY.2.2 _ _ (by omega)).trans b36, ?_, fun q hq9 => ?_, hqA.same SY (fun a k z => by unfold regW; omega), yA.same SY (fun a k z => by omega), (bL r (Nat.le_refl _)).same SY (fun a k z => by omega), nB.same SY (fun a k z => by omega), bN.keep SY (fun a k z => by omega)⟩
                        · rw [putI_ne (by omega), putI_eq]
                          unfold ocm
                          rw [if_neg (by omega), if_pos (by omega)]
                        · rw [putI_eq]
                          unfold prd
                          rw [if_pos (by omega)]
                        · rw [SY.2.2 _ _ (by omega)]
                          by_cases ej : q = r
                          · rw [ej]; exact ePA
                          · exact bP q (by omega)
                      · exfalso; omega
                    · exfalso; omega
                  · refine r_iconst hm rfl (k := ?_)
                    refine r_goto (t := 268) hm rfl (k := ?_)
                    refine r_istore_n hm rfl (k := ?_)
                    refine r_iload_n hm rfl (k := ?_)
                    refine r_if_eq (t := 323) hm rfl rfl (fun c270 => ?_) (fun c270 => ?_)
                    · exfalso; omega
                    · refine r_aload_n hm rfl (k := ?_)
                      refine r_dup hm rfl (k := ?_)
                      refine r_getI (hm := hm) (hf := rfl) (hd := rfl) (hs := (by first | assumption | exact (g1.1 _).trans rfl)) (hv := (by first | exact putI_eq | exact (putI_ne (by omega)).trans (by first | exact putI_eq | exact (putI_ne (by omega)).trans (by first | exact putI_eq | exact (putI_ne (by omega)).trans (by first | exact putI_eq | exact (putI_ne (by omega)).trans (by first | first | assumption | exact g1.2 _ _ _ rfl | exact Q0 _ _ (by omega) (by omega) | exact Q1 _ _ (by omega) (by omega) | exact Q2 _ _ (by omega) (by omega) | exact b36) | first | assumption | exact g1.2 _ _ _ rfl | exact Q0 _ _ (by omega) (by omega) | exact Q1 _ _ (by omega) (by omega) | exact Q2 _ _ (by omega) (by omega) | exact b36) | first | assumption | exact g1.2 _ _ _ rfl | exact Q0 _ _ (by omega) (by omega) | exact Q1 _ _ (by omega) (by omega) | exact Q2 _ _ (by omega) (by omega) | exact b36) | first | assumption | exact g1.2 _ _ _ rfl | exact Q0 _ _ (by omega) (by omega) | exact Q1 _ _ (by omega) (by omega) | exact Q2 _ _ (by omega) (by omega) | exact b36) | first | assumption | exact g1.2 _ _ _ rfl | exact Q0 _ _ (by omega) (by omega) | exact Q1 _ _ (by omega) (by omega) | exact Q2 _ _ (by omega) (by omega) | exact b36)) (k := ?_)
                      refine r_iconst hm rfl (k := ?_)
                      refine r_iadd hm rfl (hr := (by omega)) (k := ?_)
                      refine r_putI (hm := hm) (hf := rfl) (hd := rfl) (hs := (by first | assumption | exact (g1.1 _).trans rfl)) (hfin := Or.inl rfl) (hz := fun q9 => absurd q9 (by decide)) (k := ?_)
                      refine RN.abs (fun h1 => Sm (fun a k => a = 1085 ∧ 35 ≤ k ∧ k ≤ 37) hB h1 ∧ h1.2.1 1085 36 = ((r + 1 : Nat) : Int)) ⟨Sm.put (Sm.put (Sm.put Sm.refl (by omega)) (by omega)) (by omega), putI_eq⟩ (fun hC H9 => ?_)
                      obtain ⟨SC, e36⟩ := H9
                      have S2 : Sm regM h hC := S1.trans (SC.mono (fun a k z => by unfold regM; omega))
                      have g1 := S2.gg g
                      have hR1 := S2.repM (fun a k z => regM_R z) hR
                      obtain ⟨M0, M1, M2, M3, M4, Q0, Q1, Q2, S0, N0, N1⟩ := hR1.use
                      refine r_iconst hm rfl (k := ?_)
                      refine r_istore hm rfl (k := ?_)
                      suffices LP : ∀ (d3 k : Nat) (h1 : Hp), k + d3 = 1200 → Sm (fun a k => a = 1103 ∧ 1200 * (r + 1) ≤ k) hC h1 → (∀ k2, k2 < k → h1.2.1 1103 (1200 * (r + 1) + k2) = hC.2.1 1115 k2) → RN 185 286 [some (.inr (.inr (some 1085))), some (.inl (c : Int)), some (.inl ln), some (.inl 1), some (.inl (lik x H r)), some (.inl (k : Int))] [] h1 0 0 (fun v h2 => Sm regM h h2 ∧ SetM h2 c x H ∧ v = none) from LP 1200 0 _ rfl Sm.refl (fun k2 hk => absurd hk (Nat.not_lt_zero _))
                      refine fun d3 => Nat.strongRecOn d3 (fun d3 ih3 => ?_)
                      intro k h1 hd3 S3 eK
                      have g1 := S3.gg (S2.gg g)
                      have e36b : h1.2.1 1085 36 = ((r + 1 : Nat) : Int) := (S3.2.2 _ _ (by omega)).trans e36
                      have eN : h1.2.1 1115 k = hC.2.1 1115 k := S3.2.2 _ _ (by omega)
                      refine r_iload hm rfl (k := ?_)
                      refine r_sipush hm rfl (k := ?_)
                      refine r_icmp_ge (t := 323) hm rfl rfl (fun c291 => ?_) (fun c291 => ?_)
                      · refine r_goto (t := 135) hm rfl (k := ?_)
                        have ek : k = 1200 := by omega
                        subst ek
                        have S4 : Sm regM h h1 := S2.trans (S3.mono (fun a k z => by unfold regM; omega))
                        have S5 : Sm (fun a k => (a = 1085 ∧ 35 ≤ k ∧ k ≤ 37) ∨ (a = 1103 ∧ 1200 * (r + 1) ≤ k)) hB h1 := (SC.mono (fun a k z => Or.inl z)).trans (S3.mono (fun a k z => Or.inr z))
                        have n60 := hok.1
                        refine ih (d - 1) (by omega) (r + 1) h1 _ _ (by omega) S4 ((S5.2.2 _ _ (by omega)).trans hc1) ⟨e36b, (S5.2.2 _ _ (by omega)).trans b29, bN.keep S5 (fun a k z => by omega), fun q hq => ?_, fun q hq => ?_⟩ (by rw [← hfin, rnd_s (r := r) (by omega) (by omega)])
                        · by_cases ej : q = r + 1
                          · subst ej
                            refine ⟨fun q2 k2 hq2 hk2 => ?_, fun k2 hk => absurd hk (Nat.not_lt_zero _)⟩
                            have hp := pcs_eq hok hq2
                            rw [show 1200 * (r + 1) + 20 * q2 + k2 = 1200 * (r + 1) + (20 * q2 + k2) by omega, eK _ (by omega), SC.2.2 _ _ (by omega)]
                            exact xB.zero hq2 hk2
                          · refine ⟨fun q2 k2 hq2 hk2 => ?_, fun k2 hk => absurd hk (Nat.not_lt_zero _)⟩
                            have hp := pcs_eq hok hq2
                            rw [S5.2.2 _ _ (by omega)]
                            exact (bL q (by omega)).1 q2 k2 hq2 hk2
                        · rw [S5.2.2 _ _ (by omega)]
                          by_cases ej : q = r
                          · rw [ej]; exact ePA
                          · exact bP q (by omega)
                      · refine r_aload_n hm rfl (k := ?_)
                        refine r_getR (hm := hm) (hf := rfl) (hd := rfl) (hs := (by first | assumption | exact (g1.1 _).trans rfl)) (hv := (by first | exact putI_eq | exact (putI_ne (by omega)).trans (by first | exact putI_eq | exact (putI_ne (by omega)).trans (by first | exact putI_eq | exact (putI_ne (by omega)).trans (by first | exact putI_eq | exact (putI_ne (by omega)).trans (by first | first | assumption | exact g1.2 _ _ _ rfl | exact Q0 _ _ (by omega) (by omega) | exact Q1 _ _ (by omega) (by omega) | exact Q2 _ _ (by omega) (by omega) | exact b36) | first | assumption | exact g1.2 _ _ _ rfl | exact Q0 _ _ (by omega) (by omega) | exact Q1 _ _ (by omega) (by omega) | exact Q2 _ _ (by omega) (by omega) | exact b36) | first | assumption | exact g1.2 _ _ _ rfl | exact Q0 _ _ (by omega) (by omega) | exact Q1 _ _ (by omega) (by omega) | exact Q2 _ _ (by omega) (by omega) | exact b36) | first | assumption | exact g1.2 _ _ _ rfl | exact Q0 _ _ (by omega) (by omega) | exact Q1 _ _ (by omega) (by omega) | exact Q2 _ _ (by omega) (by omega) | exact b36) | first | assumption | exact g1.2 _ _ _ rfl | exact Q0 _ _ (by omega) (by omega) | exact Q1 _ _ (by omega) (by omega) | exact Q2 _ _ (by omega) (by omega) | exact b36)) (k := ?_)
                        refine r_sipush hm rfl (k := ?_)
                        refine r_aload_n hm rfl (k := ?_)
                        refine r_getI (hm := hm) (hf := rfl) (hd := rfl) (hs := (by first | assumption | exact (g1.1 _).trans rfl)) (hv := (by first | exact putI_eq | exact (putI_ne (by omega)).trans (by first | exact putI_eq | exact (putI_ne (by omega)).trans (by first | exact putI_eq | exact (putI_ne (by omega)).trans (by first | exact putI_eq | exact (putI_ne (by omega)).trans (by first | first | assumption | exact g1.2 _ _ _ rfl | exact Q0 _ _ (by omega) (by omega) | exact Q1 _ _ (by omega) (by omega) | exact Q2 _ _ (by omega) (by omega) | exact b36) | first | assumption | exact g1.2 _ _ _ rfl | exact Q0 _ _ (by omega) (by omega) | exact Q1 _ _ (by omega) (by omega) | exact Q2 _ _ (by omega) (by omega) | exact b36) | first | assumption | exact g1.2 _ _ _ rfl | exact Q0 _ _ (by omega) (by omega) | exact Q1 _ _ (by omega) (by omega) | exact Q2 _ _ (by omega) (by omega) | exact b36) | first | assumption | exact g1.2 _ _ _ rfl | exact Q0 _ _ (by omega) (by omega) | exact Q1 _ _ (by omega) (by omega) | exact Q2 _ _ (by omega) (by omega) | exact b36) | first | assumption | exact g1.2 _ _ _ rfl | exact Q0 _ _ (by omega) (by omega) | exact Q1 _ _ (by omega) (by omega) | exact Q2 _ _ (by omega) (by omega) | exact b36)) (k := ?_)
                        refine r_imul hm rfl (hr := (by omega)) (k := ?_)
                        refine r_iload hm rfl (k := ?_)
                        refine r_iadd hm rfl (hr := (by omega)) (k := ?_)
                        refine r_aload_n hm rfl (k := ?_)
                        refine r_getR (hm := hm) (hf := rfl) (hd := rfl) (hs := (by first | assumption | exact (g1.1 _).trans rfl)) (hv := (by first | exact putI_eq | exact (putI_ne (by omega)).trans (by first | exact putI_eq | exact (putI_ne (by omega)).trans (by first | exact putI_eq | exact (putI_ne (by omega)).trans (by first | exact putI_eq | exact (putI_ne (by omega)).trans (by first | first | assumption | exact g1.2 _ _ _ rfl | exact Q0 _ _ (by omega) (by omega) | exact Q1 _ _ (by omega) (by omega) | exact Q2 _ _ (by omega) (by omega) | exact b36) | first | assumption | exact g1.2 _ _ _ rfl | exact Q0 _ _ (by omega) (by omega) | exact Q1 _ _ (by omega) (by omega) | exact Q2 _ _ (by omega) (by omega) | exact b36) | first | assumption | exact g1.2 _ _ _ rfl | exact Q0 _ _ (by omega) (by omega) | exact Q1 _ _ (by omega) (by omega) | exact Q2 _ _ (by omega) (by omega) | exact b36) | first | assumption | exact g1.2 _ _ _ rfl | exact Q0 _ _ (by omega) (by omega) | exact Q1 _ _ (by omega) (by omega) | exact Q2 _ _ (by omega) (by omega) | exact b36) | first | assumption | exact g1.2 _ _ _ rfl | exact Q0 _ _ (by omega) (by omega) | exact Q1 _ _ (by omega) (by omega) | exact Q2 _ _ (by omega) (by omega) | exact b36)) (k := ?_)
                        refine r_iload hm rfl (k := ?_)
                        refine r_iald (hm := hm) (hf := rfl) (hs := (by first | assumption | exact (g1.1 _).trans rfl)) (hi := rfl) (hn := (by omega)) (hv := (by first | exact putI_eq | exact (putI_ne (by omega)).trans (by first | exact putI_eq | exact (putI_ne (by omega)).trans (by first | exact putI_eq | exact (putI_ne (by omega)).trans (by first | exact putI_eq | exact (putI_ne (by omega)).trans (by first | first | assumption | exact g1.2 _ _ _ rfl | exact Q0 _ _ (by omega) (by omega) | exact Q1 _ _ (by omega) (by omega) | exact Q2 _ _ (by omega) (by omega) | exact b36) | first | assumption | exact g1.2 _ _ _ rfl | exact Q0 _ _ (by omega) (by omega) | exact Q1 _ _ (by omega) (by omega) | exact Q2 _ _ (by omega) (by omega) | exact b36) | first | assumption | exact g1.2 _ _ _ rfl | exact Q0 _ _ (by omega) (by omega) | exact Q1 _ _ (by omega) (by omega) | exact Q2 _ _ (by omega) (by omega) | exact b36) | first | assumption | exact g1.2 _ _ _ rfl | exact Q0 _ _ (by omega) (by omega) | exact Q1 _ _ (by omega) (by omega) | exact Q2 _ _ (by omega) (by omega) | exact b36) | first | assumption | exact g1.2 _ _ _ rfl | exact Q0 _ _ (by omega) (by omega) | exact Q1 _ _ (by omega) (by omega) | exact Q2 _ _ (by omega) (by omega) | exact b36)) (k := ?_)
                        refine r_iast (hm := hm) (hf := rfl) (h28 := (by omega)) (hs := (by first | assumption | exact (g1.1 _).trans rfl)) (kk := 1200 * (r + 1) + k) (hi := by omega) (hn := (by omega)) (k := ?_)
                        refine r_iinc hm rfl (hr := (by omega)) (k := ?_)
                        refine r_goto (t := 286) hm rfl (k := ?_)
                        refine ih3 (d3 - 1) (by omega) (k + 1) _ (by omega) (Sm.put S3 (by omega)) (fun k2 hk => ?_)
                        by_cases e2 : k2 = k
                        · rw [e2, putI_eq]
                        · rw [putI_ne (by omega)]; exact eK k2 (by omega)
              · exfalso; omega
            · refine r_iconst hm rfl (k := ?_)
              refine r_goto (t := 218) hm rfl (k := ?_)
              refine r_putI (hm := hm) (hf := rfl) (hd := rfl) (hs := (by first | assumption | exact (g1.1 _).trans rfl)) (hfin := Or.inl rfl) (hz := fun q9 => absurd q9 (by decide)) (k := ?_)
              refine r_aload_n hm rfl (k := ?_)
              refine r_aload_n hm rfl (k := ?_)
              refine r_getI (hm := hm) (hf := rfl) (hd := rfl) (hs := (by first | assumption | exact (g1.1 _).trans rfl)) (hv := (by first | exact putI_eq | exact (putI_ne (by omega)).trans (by first | exact putI_eq | exact (putI_ne (by omega)).trans (by first | exact putI_eq | exact (putI_ne (by omega)).trans (by first | exact putI_eq | exact (putI_ne (by omega)).trans (by first | first | assumption | exact g1.2 _ _ _ rfl | exact Q0 _ _ (by omega) (by omega) | exact Q1 _ _ (by omega) (by omega) | exact Q2 _ _ (by omega) (by omega) | exact b36) | first | assumption | exact g1.2 _ _ _ rfl | exact Q0 _ _ (by omega) (by omega) | exact Q1 _ _ (by omega) (by omega) | exact Q2 _ _ (by omega) (by omega) | exact b36) | first | assumption | exact g1.2 _ _ _ rfl | exact Q0 _ _ (by omega) (by omega) | exact Q1 _ _ (by omega) (by omega) | exact Q2 _ _ (by omega) (by omega) | exact b36) | first | assumption | exact g1.2 _ _ _ rfl | exact Q0 _ _ (by omega) (by omega) | exact Q1 _ _ (by omega) (by omega) | exact Q2 _ _ (by omega) (by omega) | exact b36) | first | assumption | exact g1.2 _ _ _ rfl | exact Q0 _ _ (by omega) (by omega) | exact Q1 _ _ (by omega) (by omega) | exact Q2 _ _ (by omega) (by omega) | exact b36)) (k := ?_)
              refine r_iconst hm rfl (k := ?_)
              refine r_icmp_ne (t := 242) hm rfl rfl (fun c227 => ?_) (fun c227 => ?_)
              · exfalso; omega
              · refine r_aload_n hm rfl (k := ?_)
                refine r_getI (hm := hm) (hf := rfl) (hd := rfl) (hs := (by first | assumption | exact (g1.1 _).trans rfl)) (hv := (by first | exact putI_eq | exact (putI_ne (by omega)).trans (by first | exact putI_eq | exact (putI_ne (by omega)).trans (by first | exact putI_eq | exact (putI_ne (by omega)).trans (by first | exact putI_eq | exact (putI_ne (by omega)).trans (by first | first | assumption | exact g1.2 _ _ _ rfl | exact Q0 _ _ (by omega) (by omega) | exact Q1 _ _ (by omega) (by omega) | exact Q2 _ _ (by omega) (by omega) | exact b36) | first | assumption | exact g1.2 _ _ _ rfl | exact Q0 _ _ (by omega) (by omega) | exact Q1 _ _ (by omega) (by omega) | exact Q2 _ _ (by omega) (by omega) | exact b36) | first | assumption | exact g1.2 _ _ _ rfl | exact Q0 _ _ (by omega) (by omega) | exact Q1 _ _ (by omega) (by omega) | exact Q2 _ _ (by omega) (by omega) | exact b36) | first | assumption | exact g1.2 _ _ _ rfl | exact Q0 _ _ (by omega) (by omega) | exact Q1 _ _ (by omega) (by omega) | exact Q2 _ _ (by omega) (by omega) | exact b36) | first | assumption | exact g1.2 _ _ _ rfl | exact Q0 _ _ (by omega) (by omega) | exact Q1 _ _ (by omega) (by omega) | exact Q2 _ _ (by omega) (by omega) | exact b36)) (k := ?_)
                refine r_iconst hm rfl (k := ?_)
                refine r_iadd hm rfl (hr := (by omega)) (k := ?_)
                refine r_iload hm rfl (k := ?_)
                refine r_isub hm rfl (hr := (by omega)) (k := ?_)
                refine r_goto (t := 243) hm rfl (k := ?_)
                refine r_putI (hm := hm) (hf := rfl) (hd := rfl) (hs := (by first | assumption | exact (g1.1 _).trans rfl)) (hfin := Or.inl rfl) (hz := fun q9 => absurd q9 (by decide)) (k := ?_)
                refine r_aload_n hm rfl (k := ?_)
                refine r_getI (hm := hm) (hf := rfl) (hd := rfl) (hs := (by first | assumption | exact (g1.1 _).trans rfl)) (hv := (by first | exact putI_eq | exact (putI_ne (by omega)).trans (by first | exact putI_eq | exact (putI_ne (by omega)).trans (by first | exact putI_eq | exact (putI_ne (by omega)).trans (by first | exact putI_eq | exact (putI_ne (by omega)).trans (by first | first | assumption | exact g1.2 _ _ _ rfl | exact Q0 _ _ (by omega) (by omega) | exact Q1 _ _ (by omega) (by omega) | exact Q2 _ _ (by omega) (by omega) | exact b36) | first | assumption | exact g1.2 _ _ _ rfl | exact Q0 _ _ (by omega) (by omega) | exact Q1 _ _ (by omega) (by omega) | exact Q2 _ _ (by omega) (by omega) | exact b36) | first | assumption | exact g1.2 _ _ _ rfl | exact Q0 _ _ (by omega) (by omega) | exact Q1 _ _ (by omega) (by omega) | exact Q2 _ _ (by omega) (by omega) | exact b36) | first | assumption | exact g1.2 _ _ _ rfl | exact Q0 _ _ (by omega) (by omega) | exact Q1 _ _ (by omega) (by omega) | exact Q2 _ _ (by omega) (by omega) | exact b36) | first | assumption | exact g1.2 _ _ _ rfl | exact Q0 _ _ (by omega) (by omega) | exact Q1 _ _ (by omega) (by omega) | exact Q2 _ _ (by omega) (by omega) | exact b36)) (k := ?_)
                refine r_iconst hm rfl (k := ?_)
                refine r_icmp_ne (t := 267) hm rfl rfl (fun c251 => ?_) (fun c251 => ?_)
                · refine r_iconst hm rfl (k := ?_)
                  refine r_istore_n hm rfl (k := ?_)
                  refine r_iload_n hm rfl (k := ?_)
                  refine r_if_eq (t := 323) hm rfl rfl (fun c270 => ?_) (fun c270 => ?_)
                  · refine r_goto (t := 135) hm rfl (k := ?_)
                    refine r_iload_n hm rfl (k := ?_)
                    refine r_if_eq (t := 326) hm rfl rfl (fun c136 => ?_) (fun c136 => ?_)
                    · refine r_return hm rfl rfl (Nat.le_of_ble_eq_true rfl) (Nat.le_of_ble_eq_true rfl) ?_
                      have ef : fin x H = r := hfin.symm.trans (rnd_n (by omega))
                      have SY : Sm (fun a k => a = 1085 ∧ (k = 35 ∨ k = 37)) hB (putI (putI hB 1085 35 1) 1085 37 ((r : Int) + 1 - lik x H r)) := Sm.put (Sm.put Sm.refl (by omega)) (by omega)
                      refine ⟨S1.trans (SY.mono (fun a k z => by unfold regM; omega)), ?_, rfl⟩
                      unfold SetM
                      rw [ef]
                      refine ⟨(SY.2.2 _ _ (by omega)).trans hc1, ?_, (SY.2.2 _ _ (by omega)).trans b36, ?_, fun q hq9 => ?_, hqA.same SY (fun a k z => by unfold regW; omega), yA.same SY (fun a k z => by omega), (bL r (Nat.le_refl _)).same SY (fun a k z => by omega), nB.same SY (fun a k z => by omega), bN.keep SY (fun a k z => by omega)⟩
                      · rw [putI_ne (by omega), putI_eq]
                        unfold ocm
                        rw [if_neg (by omega), if_neg (by omega)]
                      · rw [putI_eq]
                        unfold prd
                        rw [if_neg (by omega)]
                      · rw [SY.2.2 _ _ (by omega)]
                        by_cases ej : q = r
                        · rw [ej]; exact ePA
                        · exact bP q (by omega)
                    · exfalso; omega
                  · exfalso; omega
                · exfalso; omega
          · refine r_iconst hm rfl (k := ?_)
            refine r_goto (t := 218) hm rfl (k := ?_)
            refine r_putI (hm := hm) (hf := rfl) (hd := rfl) (hs := (by first | assumption | exact (g1.1 _).trans rfl)) (hfin := Or.inl rfl) (hz := fun q9 => absurd q9 (by decide)) (k := ?_)
            refine r_aload_n hm rfl (k := ?_)
            refine r_aload_n hm rfl (k := ?_)
            refine r_getI (hm := hm) (hf := rfl) (hd := rfl) (hs := (by first | assumption | exact (g1.1 _).trans rfl)) (hv := (by first | exact putI_eq | exact (putI_ne (by omega)).trans (by first | exact putI_eq | exact (putI_ne (by omega)).trans (by first | exact putI_eq | exact (putI_ne (by omega)).trans (by first | exact putI_eq | exact (putI_ne (by omega)).trans (by first | first | assumption | exact g1.2 _ _ _ rfl | exact Q0 _ _ (by omega) (by omega) | exact Q1 _ _ (by omega) (by omega) | exact Q2 _ _ (by omega) (by omega) | exact b36) | first | assumption | exact g1.2 _ _ _ rfl | exact Q0 _ _ (by omega) (by omega) | exact Q1 _ _ (by omega) (by omega) | exact Q2 _ _ (by omega) (by omega) | exact b36) | first | assumption | exact g1.2 _ _ _ rfl | exact Q0 _ _ (by omega) (by omega) | exact Q1 _ _ (by omega) (by omega) | exact Q2 _ _ (by omega) (by omega) | exact b36) | first | assumption | exact g1.2 _ _ _ rfl | exact Q0 _ _ (by omega) (by omega) | exact Q1 _ _ (by omega) (by omega) | exact Q2 _ _ (by omega) (by omega) | exact b36) | first | assumption | exact g1.2 _ _ _ rfl | exact Q0 _ _ (by omega) (by omega) | exact Q1 _ _ (by omega) (by omega) | exact Q2 _ _ (by omega) (by omega) | exact b36)) (k := ?_)
            refine r_iconst hm rfl (k := ?_)
            refine r_icmp_ne (t := 242) hm rfl rfl (fun c227 => ?_) (fun c227 => ?_)
            · refine r_iconst hm rfl (k := ?_)
              refine r_putI (hm := hm) (hf := rfl) (hd := rfl) (hs := (by first | assumption | exact (g1.1 _).trans rfl)) (hfin := Or.inl rfl) (hz := fun q9 => absurd q9 (by decide)) (k := ?_)
              refine r_aload_n hm rfl (k := ?_)
              refine r_getI (hm := hm) (hf := rfl) (hd := rfl) (hs := (by first | assumption | exact (g1.1 _).trans rfl)) (hv := (by first | exact putI_eq | exact (putI_ne (by omega)).trans (by first | exact putI_eq | exact (putI_ne (by omega)).trans (by first | exact putI_eq | exact (putI_ne (by omega)).trans (by first | exact putI_eq | exact (putI_ne (by omega)).trans (by first | first | assumption | exact g1.2 _ _ _ rfl | exact Q0 _ _ (by omega) (by omega) | exact Q1 _ _ (by omega) (by omega) | exact Q2 _ _ (by omega) (by omega) | exact b36) | first | assumption | exact g1.2 _ _ _ rfl | exact Q0 _ _ (by omega) (by omega) | exact Q1 _ _ (by omega) (by omega) | exact Q2 _ _ (by omega) (by omega) | exact b36) | first | assumption | exact g1.2 _ _ _ rfl | exact Q0 _ _ (by omega) (by omega) | exact Q1 _ _ (by omega) (by omega) | exact Q2 _ _ (by omega) (by omega) | exact b36) | first | assumption | exact g1.2 _ _ _ rfl | exact Q0 _ _ (by omega) (by omega) | exact Q1 _ _ (by omega) (by omega) | exact Q2 _ _ (by omega) (by omega) | exact b36) | first | assumption | exact g1.2 _ _ _ rfl | exact Q0 _ _ (by omega) (by omega) | exact Q1 _ _ (by omega) (by omega) | exact Q2 _ _ (by omega) (by omega) | exact b36)) (k := ?_)
              refine r_iconst hm rfl (k := ?_)
              refine r_icmp_ne (t := 267) hm rfl rfl (fun c251 => ?_) (fun c251 => ?_)
              · refine r_iconst hm rfl (k := ?_)
                refine r_istore_n hm rfl (k := ?_)
                refine r_iload_n hm rfl (k := ?_)
                refine r_if_eq (t := 323) hm rfl rfl (fun c270 => ?_) (fun c270 => ?_)
                · refine r_goto (t := 135) hm rfl (k := ?_)
                  refine r_iload_n hm rfl (k := ?_)
                  refine r_if_eq (t := 326) hm rfl rfl (fun c136 => ?_) (fun c136 => ?_)
                  · refine r_return hm rfl rfl (Nat.le_of_ble_eq_true rfl) (Nat.le_of_ble_eq_true rfl) ?_
                    have ef : fin x H = r := hfin.symm.trans (rnd_n (by omega))
                    have SY : Sm (fun a k => a = 1085 ∧ (k = 35 ∨ k = 37)) hB (putI (putI hB 1085 35 0) 1085 37 0) := Sm.put (Sm.put Sm.refl (by omega)) (by omega)
                    refine ⟨S1.trans (SY.mono (fun a k z => by unfold regM; omega)), ?_, rfl⟩
                    unfold SetM
                    rw [ef]
                    refine ⟨(SY.2.2 _ _ (by omega)).trans hc1, ?_, (SY.2.2 _ _ (by omega)).trans b36, ?_, fun q hq9 => ?_, hqA.same SY (fun a k z => by unfold regW; omega), yA.same SY (fun a k z => by omega), (bL r (Nat.le_refl _)).same SY (fun a k z => by omega), nB.same SY (fun a k z => by omega), bN.keep SY (fun a k z => by omega)⟩
                    · rw [putI_ne (by omega), putI_eq]
                      unfold ocm
                      rw [if_pos (by omega)]
                    · rw [putI_eq]
                      unfold prd
                      rw [if_pos (by omega)]
                    · rw [SY.2.2 _ _ (by omega)]
                      by_cases ej : q = r
                      · rw [ej]; exact ePA
                      · exact bP q (by omega)
                  · exfalso; omega
                · exfalso; omega
              · exfalso; omega
            · exfalso; omega
        · have qI := m_isLike (r0 := (r : Int)) g1 hc1 hc3 hR1 hok (o9 := q) (by omega) xB (bL q (by omega))
          refine r_aload_n hm rfl (k := ?_)
          refine r_aload_n hm rfl (k := ?_)
          refine r_getI (hm := hm) (hf := rfl) (hd := rfl) (hs := (by first | assumption | exact (g1.1 _).trans rfl)) (hv := (by first | exact putI_eq | exact (putI_ne (by omega)).trans (by first | exact putI_eq | exact (putI_ne (by omega)).trans (by first | exact putI_eq | exact (putI_ne (by omega)).trans (by first | exact putI_eq | exact (putI_ne (by omega)).trans (by first | first | assumption | exact g1.2 _ _ _ rfl | exact Q0 _ _ (by omega) (by omega) | exact Q1 _ _ (by omega) (by omega) | exact Q2 _ _ (by omega) (by omega) | exact b36) | first | assumption | exact g1.2 _ _ _ rfl | exact Q0 _ _ (by omega) (by omega) | exact Q1 _ _ (by omega) (by omega) | exact Q2 _ _ (by omega) (by omega) | exact b36) | first | assumption | exact g1.2 _ _ _ rfl | exact Q0 _ _ (by omega) (by omega) | exact Q1 _ _ (by omega) (by omega) | exact Q2 _ _ (by omega) (by omega) | exact b36) | first | assumption | exact g1.2 _ _ _ rfl | exact Q0 _ _ (by omega) (by omega) | exact Q1 _ _ (by omega) (by omega) | exact Q2 _ _ (by omega) (by omega) | exact b36) | first | assumption | exact g1.2 _ _ _ rfl | exact Q0 _ _ (by omega) (by omega) | exact Q1 _ _ (by omega) (by omega) | exact Q2 _ _ (by omega) (by omega) | exact b36)) (k := ?_)
          refine r_iload hm rfl (k := ?_)
          refine r_callv (j2 := 200) hm rfl rfl rfl rfl rfl rfl (by first | assumption | exact (g1.1 _).trans rfl) (Nat.le_of_ble_eq_true rfl) (Nat.le_of_ble_eq_true rfl) rfl ⟨Nat.le_of_ble_eq_true rfl, Nat.le_of_ble_eq_true rfl, Nat.le_of_ble_eq_true rfl, Nat.le_of_ble_eq_true rfl, Nat.le_of_ble_eq_true rfl⟩ rfl (qI) (fun v9 h9 p9 => ?_)
          obtain ⟨e1, e2⟩ := p9
          subst e2
          replace e1 := e1.symm
          subst e1
          change RN 185 176 _ _ _ 0 0 _
          dsimp only [Option.toList, List.cons_append, List.nil_append]
          refine r_if_eq (t := 184) hm rfl rfl (fun c176 => ?_) (fun c176 => ?_)
          · refine r_iload hm rfl (k := ?_)
            refine r_istore hm rfl (k := ?_)
            refine r_iinc hm rfl (hr := (by omega)) (k := ?_)
            refine r_goto (t := 157) hm rfl (k := ?_)
            have e0 : dfB x (ltR x H (r + 1)) (ltR x H q) ≠ false := fun z => by
              have c9 : (if dfB x (ltR x H (r + 1)) (ltR x H q) = false then (1 : Int) else 0) = 0 := c176
              rw [if_pos z] at c9
              omega
            have b9 := ih2 (d2 - 1) (by omega) (q + 1) (by omega)
            rw [show lkM x H r (q + 1) = lkM x H r q from if_neg e0] at b9
            exact b9
          · refine r_iload hm rfl (k := ?_)
            refine r_goto (t := 186) hm rfl (k := ?_)
            refine r_istore hm rfl (k := ?_)
            refine r_iinc hm rfl (hr := (by omega)) (k := ?_)
            refine r_goto (t := 157) hm rfl (k := ?_)
            have e0 : dfB x (ltR x H (r + 1)) (ltR x H q) = false := Decidable.byContradiction (fun z => c176 (if_neg z))
            
            
            
            have b9 := ih2 (d2 - 1) (by omega) (q + 1) (by omega)
            rw [show lkM x H r (q + 1) = (q : Int) from if_pos e0] at b9
            exact b9
    · have hi2 : i < x.1 := by omega
      obtain ⟨ep, ep2⟩ := pcs_eq hok hi2
      have hzz := fun k hk => hok.2.2.1 i k hi2 hk
      refine r_iconst hm rfl (k := ?_)
      refine r_istore hm rfl (k := ?_)
      suffices LP : ∀ (d2 k : Nat) (h1 : Hp) (z5 : Option Vl), k + d2 = pcs x i → Sm regM h h1 → h1.2.1 1085 12 = (c : Int) → h1.2.1 1085 29 = H → NmM h1 x x.1 → PmK h1 1103 0 x (lt0 x) i k → RN 185 44 [some (.inr (.inr (some 1085))), some (.inl (c : Int)), some (.inl ln), some (.inl (i : Int)), some (.inl (k : Int)), z5] [] h1 0 0 (fun v h2 => Sm regM h h2 ∧ SetM h2 c x H ∧ v = none) from LP (pcs x i) 0 _ _ (by omega) S1 hc1 e29 nA pL
      clear hc1 S1 nA e29
      refine fun d2 => Nat.strongRecOn d2 (fun d2 ih2 => ?_)
      intro k h1 z5 hd2 S1 hc1 e29 nA pL
      have g1 := S1.gg g
      have hR1 := S1.repM (fun a k z => regM_R z) hR
      obtain ⟨M0, M1, M2, M3, M4, Q0, Q1, Q2, S0, N0, N1⟩ := hR1.use
      refine r_iload hm rfl (k := ?_)
      refine r_aload_n hm rfl (k := ?_)
      refine r_iload_n hm rfl (k := ?_)
      refine r_callv (j2 := 181) hm rfl rfl rfl rfl rfl rfl (by first | assumption | exact (g1.1 _).trans rfl) (Nat.le_of_ble_eq_true rfl) (Nat.le_of_ble_eq_true rfl) rfl ⟨Nat.le_of_ble_eq_true rfl, Nat.le_of_ble_eq_true rfl, Nat.le_of_ble_eq_true rfl, Nat.le_of_ble_eq_true rfl, Nat.le_of_ble_eq_true rfl⟩ rfl (m_piecesOf g1 hc1 hc3 hR1 (i := i) (by omega)) (fun v9 h9 p9 => ?_)
      obtain ⟨e1, e2⟩ := p9
      subst e2
      replace e1 := e1.symm
      subst e1
      change RN 185 51 _ _ _ 0 0 _
      dsimp only [Option.toList, List.cons_append, List.nil_append]
      refine r_icmp_ge (t := 117) hm rfl rfl (fun c51 => ?_) (fun c51 => ?_)
      · refine r_iinc hm rfl (hr := (by omega)) (k := ?_)
        refine r_goto (t := 28) hm rfl (k := ?_)
        have ek : k = pcs x i := by omega
        subst ek
        exact ih (d - 1) (by omega) (i + 1) _ _ _ (by omega) S1 hc1 e29 nA pL.next
      · have hz := hzz k (by omega)
        unfold okPc at hz
        refine r_aload_n hm rfl (k := ?_)
        refine r_getR (hm := hm) (hf := rfl) (hd := rfl) (hs := (by first | assumption | exact (g1.1 _).trans rfl)) (hv := (by first | exact putI_eq | exact (putI_ne (by omega)).trans (by first | exact putI_eq | exact (putI_ne (by omega)).trans (by first | exact putI_eq | exact (putI_ne (by omega)).trans (by first | exact putI_eq | exact (putI_ne (by omega)).trans (by first | first | assumption | exact g1.2 _ _ _ rfl | exact Q0 _ _ (by omega) (by omega) | exact Q1 _ _ (by omega) (by omega) | exact Q2 _ _ (by omega) (by omega) | exact b36) | first | assumption | exact g1.2 _ _ _ rfl | exact Q0 _ _ (by omega) (by omega) | exact Q1 _ _ (by omega) (by omega) | exact Q2 _ _ (by omega) (by omega) | exact b36) | first | assumption | exact g1.2 _ _ _ rfl | exact Q0 _ _ (by omega) (by omega) | exact Q1 _ _ (by omega) (by omega) | exact Q2 _ _ (by omega) (by omega) | exact b36) | first | assumption | exact g1.2 _ _ _ rfl | exact Q0 _ _ (by omega) (by omega) | exact Q1 _ _ (by omega) (by omega) | exact Q2 _ _ (by omega) (by omega) | exact b36) | first | assumption | exact g1.2 _ _ _ rfl | exact Q0 _ _ (by omega) (by omega) | exact Q1 _ _ (by omega) (by omega) | exact Q2 _ _ (by omega) (by omega) | exact b36)) (k := ?_)
        refine r_aload_n hm rfl (k := ?_)
        refine r_iload_n hm rfl (k := ?_)
        refine r_iload hm rfl (k := ?_)
        refine r_callv (j2 := 186) hm rfl rfl rfl rfl rfl rfl (by first | assumption | exact (g1.1 _).trans rfl) (Nat.le_of_ble_eq_true rfl) (Nat.le_of_ble_eq_true rfl) rfl ⟨Nat.le_of_ble_eq_true rfl, Nat.le_of_ble_eq_true rfl, Nat.le_of_ble_eq_true rfl, Nat.le_of_ble_eq_true rfl, Nat.le_of_ble_eq_true rfl⟩ rfl (m_place g1 hc1 hc3 hR1 (i := i) (k := k) (by omega) (by omega)) (fun v9 h9 p9 => ?_)
        obtain ⟨e1, e2⟩ := p9
        subst e2
        replace e1 := e1.symm
        subst e1
        change RN 185 65 _ _ _ 0 0 _
        dsimp only [Option.toList, List.cons_append, List.nil_append]
        refine r_iald (hm := hm) (hf := rfl) (hs := (by first | assumption | exact (g1.1 _).trans rfl)) (hi := rfl) (hn := (by omega)) (hv := (by first | exact putI_eq | exact (putI_ne (by omega)).trans (by first | exact putI_eq | exact (putI_ne (by omega)).trans (by first | exact putI_eq | exact (putI_ne (by omega)).trans (by first | exact putI_eq | exact (putI_ne (by omega)).trans (by first | first | assumption | exact g1.2 _ _ _ rfl | exact Q0 _ _ (by omega) (by omega) | exact Q1 _ _ (by omega) (by omega) | exact Q2 _ _ (by omega) (by omega) | exact b36) | first | assumption | exact g1.2 _ _ _ rfl | exact Q0 _ _ (by omega) (by omega) | exact Q1 _ _ (by omega) (by omega) | exact Q2 _ _ (by omega) (by omega) | exact b36) | first | assumption | exact g1.2 _ _ _ rfl | exact Q0 _ _ (by omega) (by omega) | exact Q1 _ _ (by omega) (by omega) | exact Q2 _ _ (by omega) (by omega) | exact b36) | first | assumption | exact g1.2 _ _ _ rfl | exact Q0 _ _ (by omega) (by omega) | exact Q1 _ _ (by omega) (by omega) | exact Q2 _ _ (by omega) (by omega) | exact b36) | first | assumption | exact g1.2 _ _ _ rfl | exact Q0 _ _ (by omega) (by omega) | exact Q1 _ _ (by omega) (by omega) | exact Q2 _ _ (by omega) (by omega) | exact b36)) (k := ?_)
        refine r_istore hm rfl (k := ?_)
        refine r_aload_n hm rfl (k := ?_)
        refine r_getR (hm := hm) (hf := rfl) (hd := rfl) (hs := (by first | assumption | exact (g1.1 _).trans rfl)) (hv := (by first | exact putI_eq | exact (putI_ne (by omega)).trans (by first | exact putI_eq | exact (putI_ne (by omega)).trans (by first | exact putI_eq | exact (putI_ne (by omega)).trans (by first | exact putI_eq | exact (putI_ne (by omega)).trans (by first | first | assumption | exact g1.2 _ _ _ rfl | exact Q0 _ _ (by omega) (by omega) | exact Q1 _ _ (by omega) (by omega) | exact Q2 _ _ (by omega) (by omega) | exact b36) | first | assumption | exact g1.2 _ _ _ rfl | exact Q0 _ _ (by omega) (by omega) | exact Q1 _ _ (by omega) (by omega) | exact Q2 _ _ (by omega) (by omega) | exact b36) | first | assumption | exact g1.2 _ _ _ rfl | exact Q0 _ _ (by omega) (by omega) | exact Q1 _ _ (by omega) (by omega) | exact Q2 _ _ (by omega) (by omega) | exact b36) | first | assumption | exact g1.2 _ _ _ rfl | exact Q0 _ _ (by omega) (by omega) | exact Q1 _ _ (by omega) (by omega) | exact Q2 _ _ (by omega) (by omega) | exact b36) | first | assumption | exact g1.2 _ _ _ rfl | exact Q0 _ _ (by omega) (by omega) | exact Q1 _ _ (by omega) (by omega) | exact Q2 _ _ (by omega) (by omega) | exact b36)) (k := ?_)
        refine r_bipush hm rfl (k := ?_)
        refine r_iload_n hm rfl (k := ?_)
        refine r_imul hm rfl (hr := (by omega)) (k := ?_)
        refine r_iload hm rfl (k := ?_)
        refine r_iadd hm rfl (hr := (by omega)) (k := ?_)
        refine r_iload hm rfl (k := ?_)
        refine r_if_ne (t := 99) hm rfl rfl (fun c81 => ?_) (fun c81 => ?_)
        · refine r_iload hm rfl (k := ?_)
          refine r_iconst hm rfl (k := ?_)
          refine r_icmp_ne (t := 109) hm rfl rfl (fun c102 => ?_) (fun c102 => ?_)
          · refine r_iconst hm rfl (k := ?_)
            refine r_iast (hm := hm) (hf := rfl) (h28 := (by omega)) (hs := (by first | assumption | exact (g1.1 _).trans rfl)) (kk := 20 * i + k) (hi := by omega) (hn := (by omega)) (k := ?_)
            refine r_iinc hm rfl (hr := (by omega)) (k := ?_)
            refine r_goto (t := 44) hm rfl (k := ?_)
            refine ih2 (d2 - 1) (by omega) (k + 1) _ _ (by omega) (Sm.put S1 (by unfold regM; omega)) ((putI_ne (by omega)).trans hc1) ((putI_ne (by omega)).trans e29) (nA.keep (Sm.put (S := fun a k => a = 1103) Sm.refl rfl) (fun a k z => by omega)) (pL.put hok hi2 (by omega) ?_)
            unfold lt0
            rw [if_neg (by omega), if_pos (by omega)]
          · refine r_iconst hm rfl (k := ?_)
            refine r_goto (t := 110) hm rfl (k := ?_)
            refine r_iast (hm := hm) (hf := rfl) (h28 := (by omega)) (hs := (by first | assumption | exact (g1.1 _).trans rfl)) (kk := 20 * i + k) (hi := by omega) (hn := (by omega)) (k := ?_)
            refine r_iinc hm rfl (hr := (by omega)) (k := ?_)
            refine r_goto (t := 44) hm rfl (k := ?_)
            refine ih2 (d2 - 1) (by omega) (k + 1) _ _ (by omega) (Sm.put S1 (by unfold regM; omega)) ((putI_ne (by omega)).trans hc1) ((putI_ne (by omega)).trans e29) (nA.keep (Sm.put (S := fun a k => a = 1103) Sm.refl rfl) (fun a k z => by omega)) (pL.put hok hi2 (by omega) ?_)
            unfold lt0
            rw [if_pos (by omega)]
        · refine r_aload_n hm rfl (k := ?_)
          refine r_getR (hm := hm) (hf := rfl) (hd := rfl) (hs := (by first | assumption | exact (g1.1 _).trans rfl)) (hv := (by first | exact putI_eq | exact (putI_ne (by omega)).trans (by first | exact putI_eq | exact (putI_ne (by omega)).trans (by first | exact putI_eq | exact (putI_ne (by omega)).trans (by first | exact putI_eq | exact (putI_ne (by omega)).trans (by first | first | assumption | exact g1.2 _ _ _ rfl | exact Q0 _ _ (by omega) (by omega) | exact Q1 _ _ (by omega) (by omega) | exact Q2 _ _ (by omega) (by omega) | exact b36) | first | assumption | exact g1.2 _ _ _ rfl | exact Q0 _ _ (by omega) (by omega) | exact Q1 _ _ (by omega) (by omega) | exact Q2 _ _ (by omega) (by omega) | exact b36) | first | assumption | exact g1.2 _ _ _ rfl | exact Q0 _ _ (by omega) (by omega) | exact Q1 _ _ (by omega) (by omega) | exact Q2 _ _ (by omega) (by omega) | exact b36) | first | assumption | exact g1.2 _ _ _ rfl | exact Q0 _ _ (by omega) (by omega) | exact Q1 _ _ (by omega) (by omega) | exact Q2 _ _ (by omega) (by omega) | exact b36) | first | assumption | exact g1.2 _ _ _ rfl | exact Q0 _ _ (by omega) (by omega) | exact Q1 _ _ (by omega) (by omega) | exact Q2 _ _ (by omega) (by omega) | exact b36)) (k := ?_)
          refine r_aload_n hm rfl (k := ?_)
          refine r_iload_n hm rfl (k := ?_)
          refine r_iload hm rfl (k := ?_)
          refine r_callv (j2 := 186) hm rfl rfl rfl rfl rfl rfl (by first | assumption | exact (g1.1 _).trans rfl) (Nat.le_of_ble_eq_true rfl) (Nat.le_of_ble_eq_true rfl) rfl ⟨Nat.le_of_ble_eq_true rfl, Nat.le_of_ble_eq_true rfl, Nat.le_of_ble_eq_true rfl, Nat.le_of_ble_eq_true rfl, Nat.le_of_ble_eq_true rfl⟩ rfl (m_place g1 hc1 hc3 hR1 (i := i) (k := k) (by omega) (by omega)) (fun v9 h9 p9 => ?_)
          obtain ⟨e1, e2⟩ := p9
          subst e2
          replace e1 := e1.symm
          subst e1
          change RN 185 95 _ _ _ 0 0 _
          dsimp only [Option.toList, List.cons_append, List.nil_append]
          refine r_iald (hm := hm) (hf := rfl) (hs := (by first | assumption | exact (g1.1 _).trans rfl)) (hi := rfl) (hn := (by omega)) (hv := (by first | exact putI_eq | exact (putI_ne (by omega)).trans (by first | exact putI_eq | exact (putI_ne (by omega)).trans (by first | exact putI_eq | exact (putI_ne (by omega)).trans (by first | exact putI_eq | exact (putI_ne (by omega)).trans (by first | first | assumption | exact g1.2 _ _ _ rfl | exact Q0 _ _ (by omega) (by omega) | exact Q1 _ _ (by omega) (by omega) | exact Q2 _ _ (by omega) (by omega) | exact b36) | first | assumption | exact g1.2 _ _ _ rfl | exact Q0 _ _ (by omega) (by omega) | exact Q1 _ _ (by omega) (by omega) | exact Q2 _ _ (by omega) (by omega) | exact b36) | first | assumption | exact g1.2 _ _ _ rfl | exact Q0 _ _ (by omega) (by omega) | exact Q1 _ _ (by omega) (by omega) | exact Q2 _ _ (by omega) (by omega) | exact b36) | first | assumption | exact g1.2 _ _ _ rfl | exact Q0 _ _ (by omega) (by omega) | exact Q1 _ _ (by omega) (by omega) | exact Q2 _ _ (by omega) (by omega) | exact b36) | first | assumption | exact g1.2 _ _ _ rfl | exact Q0 _ _ (by omega) (by omega) | exact Q1 _ _ (by omega) (by omega) | exact Q2 _ _ (by omega) (by omega) | exact b36)) (k := ?_)
          refine r_goto (t := 110) hm rfl (k := ?_)
          refine r_iast (hm := hm) (hf := rfl) (h28 := (by omega)) (hs := (by first | assumption | exact (g1.1 _).trans rfl)) (kk := 20 * i + k) (hi := by omega) (hn := (by omega)) (k := ?_)
          refine r_iinc hm rfl (hr := (by omega)) (k := ?_)
          refine r_goto (t := 44) hm rfl (k := ?_)
          refine ih2 (d2 - 1) (by omega) (k + 1) _ _ (by omega) (Sm.put S1 (by unfold regM; omega)) ((putI_ne (by omega)).trans hc1) ((putI_ne (by omega)).trans e29) (nA.keep (Sm.put (S := fun a k => a = 1103) Sm.refl rfl) (fun a k z => by omega)) (pL.put hok hi2 (by omega) ?_)
          unfold lt0
          rw [if_neg (by omega), if_neg (by omega)]
