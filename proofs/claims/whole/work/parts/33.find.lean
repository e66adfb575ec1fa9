/-! the numbers of all items: reference, whole -/
theorem RN.abs {j pc cs sl : Nat} {ls : Lc} {st : List Vl} {h : Hp} {P : Option Vl → Hp → Prop} (F : Hp → Prop) (hF : F h) (k : ∀ h2, F h2 → RN j pc ls st h2 cs sl P) : RN j pc ls st h cs sl P := k h hF
set_option maxRecDepth 8000 in
theorem m_findNumbers {L : Nat} {h : Hp} {c : Nat} {x : Tx} (g : GG L h) (hc : h.2.1 1085 12 = (c : Int)) (hc3 : c ≤ 3) (hR : RepM h c x) (hok : okTx x) : RN 173 0 [some (.inr (.inr (some 1085))), none, none, none, none, none, none, none] [] h 0 0 (fun v h2 => Sm regF h h2 ∧ NmM h2 x x.1 ∧ v = none) := by
  have hm : mrec 173 = some nM173 := rfl
  refine r_iconst hm rfl (k := ?_)
  refine r_istore_n hm rfl (k := ?_)
  suffices LP : ∀ (d k : Nat) (h1 : Hp), k + d = 5 → Sm regF h h1 → (∀ q, q < k → h1.2.1 1102 q = 0) → RN 173 2 [some (.inr (.inr (some 1085))), some (.inl (k : Int)), none, none, none, none, none, none] [] h1 0 0 (fun v h2 => Sm regF h h2 ∧ NmM h2 x x.1 ∧ v = none) from LP 5 0 _ (by omega) Sm.refl (fun q hq => by omega)
  refine fun d => Nat.strongRecOn d (fun d ih => ?_)
  intro k h1 hk S1 C1
  have g1 := S1.gg g
  have hc1 := S1.fc hc
  have hR1 := S1.fM hR
  obtain ⟨M0, M1, M2, M3, M4, Q0, Q1, Q2, S0, N0, N1⟩ := hR1.use
  refine r_iload_n hm rfl (k := ?_)
  refine r_iconst hm rfl (k := ?_)
  refine r_icmp_ge (t := 20) hm rfl rfl (fun c4 => ?_) (fun c4 => ?_)
  · refine r_iconst hm rfl (k := ?_)
    refine r_istore_n hm rfl (k := ?_)
    refine r_iconst hm rfl (k := ?_)
    refine r_istore_n hm rfl (k := ?_)
    refine r_iconst hm rfl (k := ?_)
    refine r_istore_n hm rfl (k := ?_)
    refine r_iconst hm rfl (k := ?_)
    refine r_istore hm rfl (k := ?_)
    suffices LP : ∀ (d i : Nat) (h1 : Hp) (z5 z6 z7 : Option Vl), i + d = x.1 → Sm regF h h1 → lvO h1 x i → NmM h1 x i → RN 173 29 [some (.inr (.inr (some 1085))), some (.inl (nsN x i).2.2.2), some (.inl (nsN x i).2.1), some (.inl (nsN x i).2.2.1), some (.inl (i : Int)), z5, z6, z7] [] h1 0 0 (fun v h2 => Sm regF h h2 ∧ NmM h2 x x.1 ∧ v = none) from LP x.1 0 _ none none none (by omega) S1 (fun q hq => C1 (q + 1) (by omega)) (fun q hq => by omega)
    clear ih
    refine fun d => Nat.strongRecOn d (fun d ih => ?_)
    intro i h1 z5 z6 z7 hi S1 eL eM
    have g1 := S1.gg g
    have hc1 := S1.fc hc
    have hR1 := S1.fM hR
    obtain ⟨M0, M1, M2, M3, M4, Q0, Q1, Q2, S0, N0, N1⟩ := hR1.use
    refine r_iload hm rfl (k := ?_)
    refine r_aload_n hm rfl (k := ?_)
    refine r_getR (hm := hm) (hf := rfl) (hd := rfl) (hs := (by first | assumption | exact (g1.1 _).trans rfl)) (hv := (by first | assumption | exact g1.2 _ _ _ rfl | exact M0 _ (by omega) | exact M1 _ (by omega) | exact M2 _ (by omega) | exact M3 _ (by omega) | exact M4 _ (by omega) | exact Q0 _ _ (by omega) (by omega) | exact Q1 _ _ (by omega) (by omega) | exact Q2 _ _ (by omega) (by omega) | exact S0 _ (by omega) | rfl)) (k := ?_)
    refine r_aload_n hm rfl (k := ?_)
    refine r_getI (hm := hm) (hf := rfl) (hd := rfl) (hs := (by first | assumption | exact (g1.1 _).trans rfl)) (hv := (by first | assumption | exact g1.2 _ _ _ rfl | exact M0 _ (by omega) | exact M1 _ (by omega) | exact M2 _ (by omega) | exact M3 _ (by omega) | exact M4 _ (by omega) | exact Q0 _ _ (by omega) (by omega) | exact Q1 _ _ (by omega) (by omega) | exact Q2 _ _ (by omega) (by omega) | exact S0 _ (by omega) | rfl)) (k := ?_)
    refine r_iald (hm := hm) (hf := rfl) (hs := (by first | assumption | exact (g1.1 _).trans rfl)) (kk := c) (hi := by omega) (hn := (by omega)) (hv := (by first | assumption | exact g1.2 _ _ _ rfl | exact M0 _ (by omega) | exact M1 _ (by omega) | exact M2 _ (by omega) | exact M3 _ (by omega) | exact M4 _ (by omega) | exact Q0 _ _ (by omega) (by omega) | exact Q1 _ _ (by omega) (by omega) | exact Q2 _ _ (by omega) (by omega) | exact S0 _ (by omega) | rfl)) (k := ?_)
    refine r_icmp_ge (t := 440) hm rfl rfl (fun c40 => ?_) (fun c40 => ?_)
    · refine r_return hm rfl rfl (Nat.le_of_ble_eq_true rfl) (Nat.le_of_ble_eq_true rfl) ?_
      have ei : i = x.1 := by omega
      subst ei
      exact ⟨S1, eM, rfl⟩
    · have hi2 : i < x.1 := by omega
      have hit := hok.2.1 i hi2
      have n60 := hok.1
      obtain ⟨u1, u2, u3, u4, u5⟩ := nsN_ok hok (i + 1) (by omega)
      obtain ⟨v1, v2, v3, v4, v5⟩ := nsN_ok hok i (by omega)
      refine r_aload_n hm rfl (k := ?_)
      refine r_iload hm rfl (k := ?_)
      refine r_callv (j2 := 174) hm rfl rfl rfl rfl rfl rfl (by first | assumption | exact (g1.1 _).trans rfl) (Nat.le_of_ble_eq_true rfl) (Nat.le_of_ble_eq_true rfl) rfl ⟨Nat.le_of_ble_eq_true rfl, Nat.le_of_ble_eq_true rfl, Nat.le_of_ble_eq_true rfl, Nat.le_of_ble_eq_true rfl, Nat.le_of_ble_eq_true rfl⟩ rfl (m_kind g1 hc1 hc3 hR1 (i := i) (by omega)) (fun v9 h9 p9 => ?_)
      obtain ⟨e1, e2⟩ := p9
      subst e2
      replace e1 := e1.symm
      subst e1
      change RN 173 49 _ _ _ 0 0 _
      dsimp only [Option.toList, List.cons_append, List.nil_append]
      refine r_istore hm rfl (k := ?_)
      refine r_aload_n hm rfl (k := ?_)
      refine r_getR (hm := hm) (hf := rfl) (hd := rfl) (hs := (by first | assumption | exact (g1.1 _).trans rfl)) (hv := (by first | assumption | exact g1.2 _ _ _ rfl | exact M0 _ (by omega) | exact M1 _ (by omega) | exact M2 _ (by omega) | exact M3 _ (by omega) | exact M4 _ (by omega) | exact Q0 _ _ (by omega) (by omega) | exact Q1 _ _ (by omega) (by omega) | exact Q2 _ _ (by omega) (by omega) | exact S0 _ (by omega) | rfl)) (k := ?_)
      refine r_iload hm rfl (k := ?_)
      refine r_iconst hm rfl (k := ?_)
      refine r_iast (hm := hm) (hf := rfl) (h28 := (by omega)) (hs := (by first | assumption | exact (g1.1 _).trans rfl)) (hi := rfl) (hn := (by omega)) (k := ?_)
      refine RN.abs (fun h1 => Sm regF h h1 ∧ lvO h1 x i ∧ NmM h1 x i ∧ h1.2.1 1100 i = 0) ⟨Sm.put S1 (by unfold regF; omega), fun q hq => by rw [putI_ne (by omega)]; exact eL q hq, NmM.same (S := fun a k => k = i ∧ a ≠ 1099) eM (Sm.put Sm.refl (by omega)) (fun a k z => by omega), putI_eq⟩ (fun h1 H9 => ?_)
      obtain ⟨S1, eL, eM, eZ⟩ := H9
      have g1 := S1.gg g
      have hc1 := S1.fc hc
      have hR1 := S1.fM hR
      obtain ⟨M0, M1, M2, M3, M4, Q0, Q1, Q2, S0, N0, N1⟩ := hR1.use
      refine r_iload hm rfl (k := ?_)
      refine r_if_ne (t := 232) hm rfl rfl (fun c61 => ?_) (fun c61 => ?_)
      · have k0 : x.2.1 1 i ≠ 0 := by omega
        obtain ⟨w1, w2, w3, w4⟩ := nsS_1 k0
        have hHD : -1 ≤ (nsN x i).2.2.2 ∧ (nsN x i).2.2.2 < i := by omega
        have nl : nLen x i = if (nsN x i).2.2.2 = -1 then 1 else x.2.1 2 ((nsN x i).2.2.2).toNat := by unfold nLen nSec; rw [w4]
        have nh : 0 ≤ (nsN x i).2.2.2 → nLen x ((nsN x i).2.2.2).toNat = nLen x i ∧ nSaid x ((nsN x i).2.2.2).toNat = (nHd (nsN x (((nsN x i).2.2.2).toNat + 1)).1 x.2.2.2 (x.2.1 2 ((nsN x i).2.2.2).toNat).toNat) ∧ (∀ q, nRow x ((nsN x i).2.2.2).toNat q = nRow x i q) := by
          intro p9
          obtain ⟨y1, y2⟩ := nsN_head (x := x) i p9
          have y3 : x.2.1 1 ((nsN x i).2.2.2).toNat = 0 := by rcases v5 with v5 | v5; omega; exact v5.2
          have y4 : nLen x ((nsN x i).2.2.2).toNat = nLen x i := by rw [nl]; unfold nLen; rw [y2]
          refine ⟨y4, ?_, fun q => ?_⟩
          · unfold nSaid
            rw [if_pos y3]
          · unfold nRow
            rw [y4, w1, y1]
        have sd : ¬ (x.2.1 1 i = 2 ∨ x.2.1 1 i = 3) → nSaid x i = if (nsN x i).2.2.2 = -1 then 1 else nSaid x ((nsN x i).2.2.2).toNat := by
          intro p9
          have e9 : nSec x i = (nsN x i).2.2.2 := w4
          by_cases p8 : (nsN x i).2.2.2 = -1
          · unfold nSaid
            rw [if_neg k0, if_neg p9, e9, if_pos p8, if_pos p8]
          · rw [if_neg p8, (nh (by omega)).2.1]
            unfold nSaid
            rw [if_neg k0, if_neg p9, e9, if_neg p8]
        refine r_aload_n hm rfl (k := ?_)
        refine r_getR (hm := hm) (hf := rfl) (hd := rfl) (hs := (by first | assumption | exact (g1.1 _).trans rfl)) (hv := (by first | assumption | exact g1.2 _ _ _ rfl | exact M0 _ (by omega) | exact M1 _ (by omega) | exact M2 _ (by omega) | exact M3 _ (by omega) | exact M4 _ (by omega) | exact Q0 _ _ (by omega) (by omega) | exact Q1 _ _ (by omega) (by omega) | exact Q2 _ _ (by omega) (by omega) | exact S0 _ (by omega) | rfl)) (k := ?_)
        refine r_iload hm rfl (k := ?_)
        refine r_iload_n hm rfl (k := ?_)
        refine r_if_ge (t := 246) hm rfl rfl (fun c239 => ?_) (fun c239 => ?_)
        · refine r_aload_n hm rfl (k := ?_)
          refine r_getR (hm := hm) (hf := rfl) (hd := rfl) (hs := (by first | assumption | exact (g1.1 _).trans rfl)) (hv := (by first | assumption | exact g1.2 _ _ _ rfl | exact M0 _ (by omega) | exact M1 _ (by omega) | exact M2 _ (by omega) | exact M3 _ (by omega) | exact M4 _ (by omega) | exact Q0 _ _ (by omega) (by omega) | exact Q1 _ _ (by omega) (by omega) | exact Q2 _ _ (by omega) (by omega) | exact S0 _ (by omega) | rfl)) (k := ?_)
          refine r_iload_n hm rfl (k := ?_)
          refine r_iald (hm := hm) (hf := rfl) (hs := (by first | assumption | exact (g1.1 _).trans rfl)) (kk := ((nsN x i).2.2.2).toNat) (hi := by omega) (hn := (by omega)) (hv := (by first | assumption | exact g1.2 _ _ _ rfl | exact M0 _ (by omega) | exact M1 _ (by omega) | exact M2 _ (by omega) | exact M3 _ (by omega) | exact M4 _ (by omega) | exact Q0 _ _ (by omega) (by omega) | exact Q1 _ _ (by omega) (by omega) | exact Q2 _ _ (by omega) (by omega) | exact S0 _ (by omega) | rfl)) (k := ?_)
          refine r_iast (hm := hm) (hf := rfl) (h28 := (by omega)) (hs := (by first | assumption | exact (g1.1 _).trans rfl)) (hi := rfl) (hn := (by omega)) (k := ?_)
          refine RN.abs (fun h1 => Sm regF h h1 ∧ lvO h1 x i ∧ NmM h1 x i ∧ h1.2.1 1100 i = 0 ∧ h1.2.1 1098 i = nLen x i) ⟨Sm.put S1 (by unfold regF; omega), fun q hq => by rw [putI_ne (by omega)]; exact eL q hq, NmM.same (S := fun a k => k = i ∧ a ≠ 1099) eM (Sm.put Sm.refl (by omega)) (fun a k z => by omega), by rw [putI_ne (by omega)]; exact eZ, by rw [putI_eq, nl]; first | (rw [if_pos (by omega)]; done) | (rw [if_neg (by omega), ← nl, ← (nh (by omega)).1]; exact (eM _ (by omega)).2.1) | (rw [← nl, ← (nh (by omega)).1]; exact (eM _ (by omega)).2.1)⟩ (fun h1 H9 => ?_)
          obtain ⟨S1, eL, eM, eZ, eRM⟩ := H9
          have g1 := S1.gg g
          have hc1 := S1.fc hc
          have hR1 := S1.fM hR
          obtain ⟨M0, M1, M2, M3, M4, Q0, Q1, Q2, S0, N0, N1⟩ := hR1.use
          refine r_iconst hm rfl (k := ?_)
          refine r_istore hm rfl (k := ?_)
          suffices LP : ∀ (d2 k : Nat) (h1 : Hp), k + d2 = 4 → Sm regF h h1 → lvO h1 x i → NmM h1 x i → h1.2.1 1100 i = 0 → h1.2.1 1098 i = nLen x i → (∀ q : Nat, q < k → (q : Int) < nLen x i → h1.2.1 1099 (4 * i + q) = nRow x i q) → RN 173 256 [some (.inr (.inr (some 1085))), some (.inl (nsN x i).2.2.2), some (.inl (nsN x i).2.1), some (.inl (nsN x i).2.2.1), some (.inl (i : Int)), some (.inl (x.2.1 1 i)), some (.inl (k : Int)), z7] [] h1 0 0 (fun v h2 => Sm regF h h2 ∧ NmM h2 x x.1 ∧ v = none) from LP 4 0 _ (by omega) S1 eL eM eZ eRM (fun q hq => by omega)
          refine fun d2 => Nat.strongRecOn d2 (fun d2 ih2 => ?_)
          intro k h1 hk S1 eL eM eZ eRM eRW
          have g1 := S1.gg g
          have hc1 := S1.fc hc
          have hR1 := S1.fM hR
          obtain ⟨M0, M1, M2, M3, M4, Q0, Q1, Q2, S0, N0, N1⟩ := hR1.use
          refine r_iload hm rfl (k := ?_)
          refine r_iconst hm rfl (k := ?_)
          refine r_icmp_ge (t := 299) hm rfl rfl (fun c259 => ?_) (fun c259 => ?_)
          · refine r_aload_n hm rfl (k := ?_)
            refine r_getR (hm := hm) (hf := rfl) (hd := rfl) (hs := (by first | assumption | exact (g1.1 _).trans rfl)) (hv := (by first | assumption | exact g1.2 _ _ _ rfl | exact M0 _ (by omega) | exact M1 _ (by omega) | exact M2 _ (by omega) | exact M3 _ (by omega) | exact M4 _ (by omega) | exact Q0 _ _ (by omega) (by omega) | exact Q1 _ _ (by omega) (by omega) | exact Q2 _ _ (by omega) (by omega) | exact S0 _ (by omega) | rfl)) (k := ?_)
            refine r_iload hm rfl (k := ?_)
            refine r_iload_n hm rfl (k := ?_)
            refine r_if_ge (t := 313) hm rfl rfl (fun c306 => ?_) (fun c306 => ?_)
            · refine r_aload_n hm rfl (k := ?_)
              refine r_getR (hm := hm) (hf := rfl) (hd := rfl) (hs := (by first | assumption | exact (g1.1 _).trans rfl)) (hv := (by first | assumption | exact g1.2 _ _ _ rfl | exact M0 _ (by omega) | exact M1 _ (by omega) | exact M2 _ (by omega) | exact M3 _ (by omega) | exact M4 _ (by omega) | exact Q0 _ _ (by omega) (by omega) | exact Q1 _ _ (by omega) (by omega) | exact Q2 _ _ (by omega) (by omega) | exact S0 _ (by omega) | rfl)) (k := ?_)
              refine r_iload_n hm rfl (k := ?_)
              refine r_iald (hm := hm) (hf := rfl) (hs := (by first | assumption | exact (g1.1 _).trans rfl)) (kk := ((nsN x i).2.2.2).toNat) (hi := by omega) (hn := (by omega)) (hv := (by first | assumption | exact g1.2 _ _ _ rfl | exact M0 _ (by omega) | exact M1 _ (by omega) | exact M2 _ (by omega) | exact M3 _ (by omega) | exact M4 _ (by omega) | exact Q0 _ _ (by omega) (by omega) | exact Q1 _ _ (by omega) (by omega) | exact Q2 _ _ (by omega) (by omega) | exact S0 _ (by omega) | rfl)) (k := ?_)
              refine r_iast (hm := hm) (hf := rfl) (h28 := (by omega)) (hs := (by first | assumption | exact (g1.1 _).trans rfl)) (hi := rfl) (hn := (by omega)) (k := ?_)
              have b9 := m_find_320 g hc hc3 hR hok hi2 (fun h3 z5 z6 z7 a9 b9 c9 => ih (d - 1) (by omega) (i + 1) h3 z5 z6 z7 (by omega) a9 b9 c9) (F := (nsN x i).2.1) (B := (nsN x i).2.2.1) ⟨fun q9 => by rw [w2, if_pos q9], fun q9 => by rw [w2, if_neg q9]⟩ ⟨fun q9 => by rw [w3, if_pos q9], fun q9 => by rw [w3, if_neg q9]⟩ (putI h1 1101 i (h1.2.1 1101 ((nsN x i).2.2.2).toNat)) (some (.inl (k : Int))) z7 (Sm.put S1 (show regF 1101 i by unfold regF; omega)) (fun q hq => by rw [putI_ne (by omega), w1]; exact eL q hq) (NmM.same (S := fun a k => k = i ∧ a ≠ 1099) eM (Sm.put Sm.refl (by omega)) (fun a k z => by omega)) (by rw [putI_ne (by omega)]; exact eRM) (fun q hq hq3 => by rw [putI_ne (by omega)]; exact eRW q (by omega) hq3) (fun q9 => by rw [putI_ne (by omega), eZ]; unfold nOwn; rw [if_neg (by omega), if_neg (by omega), if_neg (by omega)]) (fun q9 => by rw [putI_eq, sd q9]; rw [if_neg (by omega)]; exact (eM _ (by omega)).2.2.2.1)
              rw [w4] at b9
              exact b9
            · exfalso; omega
          · refine r_aload_n hm rfl (k := ?_)
            refine r_getR (hm := hm) (hf := rfl) (hd := rfl) (hs := (by first | assumption | exact (g1.1 _).trans rfl)) (hv := (by first | assumption | exact g1.2 _ _ _ rfl | exact M0 _ (by omega) | exact M1 _ (by omega) | exact M2 _ (by omega) | exact M3 _ (by omega) | exact M4 _ (by omega) | exact Q0 _ _ (by omega) (by omega) | exact Q1 _ _ (by omega) (by omega) | exact Q2 _ _ (by omega) (by omega) | exact S0 _ (by omega) | rfl)) (k := ?_)
            refine r_iconst hm rfl (k := ?_)
            refine r_iload hm rfl (k := ?_)
            refine r_imul hm rfl (hr := (by omega)) (k := ?_)
            refine r_iload hm rfl (k := ?_)
            refine r_iadd hm rfl (hr := (by omega)) (k := ?_)
            refine r_iload_n hm rfl (k := ?_)
            refine r_if_ge (t := 281) hm rfl rfl (fun c274 => ?_) (fun c274 => ?_)
            · refine r_aload_n hm rfl (k := ?_)
              refine r_getR (hm := hm) (hf := rfl) (hd := rfl) (hs := (by first | assumption | exact (g1.1 _).trans rfl)) (hv := (by first | assumption | exact g1.2 _ _ _ rfl | exact M0 _ (by omega) | exact M1 _ (by omega) | exact M2 _ (by omega) | exact M3 _ (by omega) | exact M4 _ (by omega) | exact Q0 _ _ (by omega) (by omega) | exact Q1 _ _ (by omega) (by omega) | exact Q2 _ _ (by omega) (by omega) | exact S0 _ (by omega) | rfl)) (k := ?_)
              refine r_iconst hm rfl (k := ?_)
              refine r_iload_n hm rfl (k := ?_)
              refine r_imul hm rfl (hr := (by omega)) (k := ?_)
              refine r_iload hm rfl (k := ?_)
              refine r_iadd hm rfl (hr := (by omega)) (k := ?_)
              refine r_iald (hm := hm) (hf := rfl) (hs := (by first | assumption | exact (g1.1 _).trans rfl)) (kk := 4 * ((nsN x i).2.2.2).toNat + k) (hi := by omega) (hn := (by omega)) (hv := (by first | assumption | exact g1.2 _ _ _ rfl | exact M0 _ (by omega) | exact M1 _ (by omega) | exact M2 _ (by omega) | exact M3 _ (by omega) | exact M4 _ (by omega) | exact Q0 _ _ (by omega) (by omega) | exact Q1 _ _ (by omega) (by omega) | exact Q2 _ _ (by omega) (by omega) | exact S0 _ (by omega) | rfl)) (k := ?_)
              refine r_iast (hm := hm) (hf := rfl) (h28 := (by omega)) (hs := (by first | assumption | exact (g1.1 _).trans rfl)) (kk := 4 * i + k) (hi := by omega) (hn := (by omega)) (k := ?_)
              refine r_iinc hm rfl (hr := (by omega)) (k := ?_)
              refine r_goto (t := 256) hm rfl (k := ?_)
              refine ih2 (d2 - 1) (by omega) (k + 1) _ (by omega) (Sm.put S1 (by unfold regF; omega)) (fun q hq => by rw [putI_ne (by omega)]; exact eL q hq) (NmM.same (S := fun a k => a = 1099 ∧ 4 * i ≤ k) eM (Sm.put Sm.refl (by omega)) (fun a k z => by omega)) (by rw [putI_ne (by omega)]; exact eZ) (by rw [putI_ne (by omega)]; exact eRM) (fun q hq hq3 => ?_)
              by_cases e1 : q = k
              · subst e1
                rw [putI_eq, ← (nh (by omega)).2.2 q]
                exact (eM _ (by omega)).2.2.2.2 q (by omega) (by rw [(nh (by omega)).1]; exact hq3)
              · rw [putI_ne (by omega)]
                exact eRW q (by omega) hq3
            · exfalso; omega
        · refine r_iconst hm rfl (k := ?_)
          refine r_goto (t := 252) hm rfl (k := ?_)
          refine r_iast (hm := hm) (hf := rfl) (h28 := (by omega)) (hs := (by first | assumption | exact (g1.1 _).trans rfl)) (hi := rfl) (hn := (by omega)) (k := ?_)
          refine RN.abs (fun h1 => Sm regF h h1 ∧ lvO h1 x i ∧ NmM h1 x i ∧ h1.2.1 1100 i = 0 ∧ h1.2.1 1098 i = nLen x i) ⟨Sm.put S1 (by unfold regF; omega), fun q hq => by rw [putI_ne (by omega)]; exact eL q hq, NmM.same (S := fun a k => k = i ∧ a ≠ 1099) eM (Sm.put Sm.refl (by omega)) (fun a k z => by omega), by rw [putI_ne (by omega)]; exact eZ, by rw [putI_eq, nl]; first | (rw [if_pos (by omega)]; done) | (rw [if_neg (by omega), ← nl, ← (nh (by omega)).1]; exact (eM _ (by omega)).2.1) | (rw [← nl, ← (nh (by omega)).1]; exact (eM _ (by omega)).2.1)⟩ (fun h1 H9 => ?_)
          obtain ⟨S1, eL, eM, eZ, eRM⟩ := H9
          have g1 := S1.gg g
          have hc1 := S1.fc hc
          have hR1 := S1.fM hR
          obtain ⟨M0, M1, M2, M3, M4, Q0, Q1, Q2, S0, N0, N1⟩ := hR1.use
          refine r_iconst hm rfl (k := ?_)
          refine r_istore hm rfl (k := ?_)
          suffices LP : ∀ (d2 k : Nat) (h1 : Hp), k + d2 = 4 → Sm regF h h1 → lvO h1 x i → NmM h1 x i → h1.2.1 1100 i = 0 → h1.2.1 1098 i = nLen x i → (∀ q : Nat, q < k → (q : Int) < nLen x i → h1.2.1 1099 (4 * i + q) = nRow x i q) → RN 173 256 [some (.inr (.inr (some 1085))), some (.inl (nsN x i).2.2.2), some (.inl (nsN x i).2.1), some (.inl (nsN x i).2.2.1), some (.inl (i : Int)), some (.inl (x.2.1 1 i)), some (.inl (k : Int)), z7] [] h1 0 0 (fun v h2 => Sm regF h h2 ∧ NmM h2 x x.1 ∧ v = none) from LP 4 0 _ (by omega) S1 eL eM eZ eRM (fun q hq => by omega)
          refine fun d2 => Nat.strongRecOn d2 (fun d2 ih2 => ?_)
          intro k h1 hk S1 eL eM eZ eRM eRW
          have g1 := S1.gg g
          have hc1 := S1.fc hc
          have hR1 := S1.fM hR
          obtain ⟨M0, M1, M2, M3, M4, Q0, Q1, Q2, S0, N0, N1⟩ := hR1.use
          refine r_iload hm rfl (k := ?_)
          refine r_iconst hm rfl (k := ?_)
          refine r_icmp_ge (t := 299) hm rfl rfl (fun c259 => ?_) (fun c259 => ?_)
          · refine r_aload_n hm rfl (k := ?_)
            refine r_getR (hm := hm) (hf := rfl) (hd := rfl) (hs := (by first | assumption | exact (g1.1 _).trans rfl)) (hv := (by first | assumption | exact g1.2 _ _ _ rfl | exact M0 _ (by omega) | exact M1 _ (by omega) | exact M2 _ (by omega) | exact M3 _ (by omega) | exact M4 _ (by omega) | exact Q0 _ _ (by omega) (by omega) | exact Q1 _ _ (by omega) (by omega) | exact Q2 _ _ (by omega) (by omega) | exact S0 _ (by omega) | rfl)) (k := ?_)
            refine r_iload hm rfl (k := ?_)
            refine r_iload_n hm rfl (k := ?_)
            refine r_if_ge (t := 313) hm rfl rfl (fun c306 => ?_) (fun c306 => ?_)
            · exfalso; omega
            · refine r_iconst hm rfl (k := ?_)
              refine r_goto (t := 319) hm rfl (k := ?_)
              refine r_iast (hm := hm) (hf := rfl) (h28 := (by omega)) (hs := (by first | assumption | exact (g1.1 _).trans rfl)) (hi := rfl) (hn := (by omega)) (k := ?_)
              have b9 := m_find_320 g hc hc3 hR hok hi2 (fun h3 z5 z6 z7 a9 b9 c9 => ih (d - 1) (by omega) (i + 1) h3 z5 z6 z7 (by omega) a9 b9 c9) (F := (nsN x i).2.1) (B := (nsN x i).2.2.1) ⟨fun q9 => by rw [w2, if_pos q9], fun q9 => by rw [w2, if_neg q9]⟩ ⟨fun q9 => by rw [w3, if_pos q9], fun q9 => by rw [w3, if_neg q9]⟩ (putI h1 1101 i 1) (some (.inl (k : Int))) z7 (Sm.put S1 (show regF 1101 i by unfold regF; omega)) (fun q hq => by rw [putI_ne (by omega), w1]; exact eL q hq) (NmM.same (S := fun a k => k = i ∧ a ≠ 1099) eM (Sm.put Sm.refl (by omega)) (fun a k z => by omega)) (by rw [putI_ne (by omega)]; exact eRM) (fun q hq hq3 => by rw [putI_ne (by omega)]; exact eRW q (by omega) hq3) (fun q9 => by rw [putI_ne (by omega), eZ]; unfold nOwn; rw [if_neg (by omega), if_neg (by omega), if_neg (by omega)]) (fun q9 => by rw [putI_eq, sd q9]; rw [if_pos (by omega)])
              rw [w4] at b9
              exact b9
          · refine r_aload_n hm rfl (k := ?_)
            refine r_getR (hm := hm) (hf := rfl) (hd := rfl) (hs := (by first | assumption | exact (g1.1 _).trans rfl)) (hv := (by first | assumption | exact g1.2 _ _ _ rfl | exact M0 _ (by omega) | exact M1 _ (by omega) | exact M2 _ (by omega) | exact M3 _ (by omega) | exact M4 _ (by omega) | exact Q0 _ _ (by omega) (by omega) | exact Q1 _ _ (by omega) (by omega) | exact Q2 _ _ (by omega) (by omega) | exact S0 _ (by omega) | rfl)) (k := ?_)
            refine r_iconst hm rfl (k := ?_)
            refine r_iload hm rfl (k := ?_)
            refine r_imul hm rfl (hr := (by omega)) (k := ?_)
            refine r_iload hm rfl (k := ?_)
            refine r_iadd hm rfl (hr := (by omega)) (k := ?_)
            refine r_iload_n hm rfl (k := ?_)
            refine r_if_ge (t := 281) hm rfl rfl (fun c274 => ?_) (fun c274 => ?_)
            · exfalso; omega
            · refine r_iconst hm rfl (k := ?_)
              refine r_goto (t := 292) hm rfl (k := ?_)
              refine r_iast (hm := hm) (hf := rfl) (h28 := (by omega)) (hs := (by first | assumption | exact (g1.1 _).trans rfl)) (kk := 4 * i + k) (hi := by omega) (hn := (by omega)) (k := ?_)
              refine r_iinc hm rfl (hr := (by omega)) (k := ?_)
              refine r_goto (t := 256) hm rfl (k := ?_)
              refine ih2 (d2 - 1) (by omega) (k + 1) _ (by omega) (Sm.put S1 (by unfold regF; omega)) (fun q hq => by rw [putI_ne (by omega)]; exact eL q hq) (NmM.same (S := fun a k => a = 1099 ∧ 4 * i ≤ k) eM (Sm.put Sm.refl (by omega)) (fun a k z => by omega)) (by rw [putI_ne (by omega)]; exact eZ) (by rw [putI_ne (by omega)]; exact eRM) (fun q hq hq3 => ?_)
              by_cases e1 : q = k
              · subst e1
                have y9 : nRow x i q = 0 := by unfold nRow; rw [if_pos hq3, w1]; exact nsN_none i (by omega) q
                rw [putI_eq, y9]
              · rw [putI_ne (by omega)]
                exact eRW q (by omega) hq3
      · refine r_aload_n hm rfl (k := ?_)
        refine r_iload hm rfl (k := ?_)
        refine r_callv (j2 := 175) hm rfl rfl rfl rfl rfl rfl (by first | assumption | exact (g1.1 _).trans rfl) (Nat.le_of_ble_eq_true rfl) (Nat.le_of_ble_eq_true rfl) rfl ⟨Nat.le_of_ble_eq_true rfl, Nat.le_of_ble_eq_true rfl, Nat.le_of_ble_eq_true rfl, Nat.le_of_ble_eq_true rfl, Nat.le_of_ble_eq_true rfl⟩ rfl (m_a g1 hc1 hc3 hR1 (i := i) (by omega)) (fun v9 h9 p9 => ?_)
        obtain ⟨e1, e2⟩ := p9
        subst e2
        replace e1 := e1.symm
        subst e1
        change RN 173 70 _ _ _ 0 0 _
        dsimp only [Option.toList, List.cons_append, List.nil_append]
        refine r_istore hm rfl (k := ?_)
        have k0 : x.2.1 1 i = 0 := by omega
        have hl := hit.2.2.2.2.1 (Or.inl k0)
        have lvA : h1.2.1 1102 (x.2.1 2 i).toNat = (nsN x i).1 ((x.2.1 2 i).toNat - 1) := by
          have := eL ((x.2.1 2 i).toNat - 1) (by omega)
          rw [show (x.2.1 2 i).toNat - 1 + 1 = (x.2.1 2 i).toNat by omega] at this
          exact this
        have lvB := v1 ((x.2.1 2 i).toNat - 1)
        refine r_aload_n hm rfl (k := ?_)
        refine r_getR (hm := hm) (hf := rfl) (hd := rfl) (hs := (by first | assumption | exact (g1.1 _).trans rfl)) (hv := (by first | assumption | exact g1.2 _ _ _ rfl | exact M0 _ (by omega) | exact M1 _ (by omega) | exact M2 _ (by omega) | exact M3 _ (by omega) | exact M4 _ (by omega) | exact Q0 _ _ (by omega) (by omega) | exact Q1 _ _ (by omega) (by omega) | exact Q2 _ _ (by omega) (by omega) | exact S0 _ (by omega) | rfl)) (k := ?_)
        refine r_iload hm rfl (k := ?_)
        refine r_dup2 hm rfl (k := ?_)
        refine r_iald (hm := hm) (hf := rfl) (hs := (by first | assumption | exact (g1.1 _).trans rfl)) (kk := (x.2.1 2 i).toNat) (hi := by omega) (hn := (by omega)) (hv := lvA) (k := ?_)
        refine r_iconst hm rfl (k := ?_)
        refine r_iadd hm rfl (hr := (by omega)) (k := ?_)
        refine r_iast (hm := hm) (hf := rfl) (h28 := (by omega)) (hs := (by first | assumption | exact (g1.1 _).trans rfl)) (kk := (x.2.1 2 i).toNat) (hi := by omega) (hn := (by omega)) (k := ?_)
        refine r_iload hm rfl (k := ?_)
        refine r_iconst hm rfl (k := ?_)
        refine r_iadd hm rfl (hr := (by omega)) (k := ?_)
        refine r_istore hm rfl (k := ?_)
        suffices LP : ∀ (d2 k : Nat) (h1 : Hp), k + d2 = 5 → (x.2.1 2 i) + 1 ≤ (k : Int) → Sm regF h h1 → NmM h1 x i → (∀ q : Nat, q < 4 → h1.2.1 1102 (q + 1) = if q + 1 < k then (nsN x (i + 1)).1 q else (nsN x i).1 q) → RN 173 89 [some (.inr (.inr (some 1085))), some (.inl (nsN x i).2.2.2), some (.inl (nsN x i).2.1), some (.inl (nsN x i).2.2.1), some (.inl (i : Int)), some (.inl (x.2.1 1 i)), some (.inl (x.2.1 2 i)), some (.inl (k : Int))] [] h1 0 0 (fun v h2 => Sm regF h h2 ∧ NmM h2 x x.1 ∧ v = none) from by
          have f9 : ∀ q : Nat, q < 4 → (putI h1 1102 (x.2.1 2 i).toNat ((nsN x i).1 ((x.2.1 2 i).toNat - 1) + 1)).2.1 1102 (q + 1) = if q + 1 < (x.2.1 2 i).toNat + 1 then (nsN x (i + 1)).1 q else (nsN x i).1 q := by
            intro q hq
            have e9 := (nsS_0 k0 q).1
            by_cases e1 : q + 1 = (x.2.1 2 i).toNat
            · rw [e1, putI_eq, if_pos (by omega), e9, if_pos (by omega), show (x.2.1 2 i).toNat - 1 = q by omega]
            · rw [putI_ne (by omega), eL q hq]
              by_cases e2 : q + 1 < (x.2.1 2 i).toNat + 1
              · rw [if_pos e2, e9, if_neg (by omega), if_pos (by omega)]
              · rw [if_neg e2]
          have LQ := LP (4 - (x.2.1 2 i).toNat) ((x.2.1 2 i).toNat + 1) _ (by omega) (by omega) (Sm.put S1 (show regF 1102 (x.2.1 2 i).toNat by unfold regF; omega)) (NmM.same (S := fun a k => a = 1102) eM (Sm.put Sm.refl (by omega)) (fun a k z => by omega)) f9
          rw [show (((x.2.1 2 i).toNat + 1 : Nat) : Int) = x.2.1 2 i + 1 by omega] at LQ
          exact LQ
        refine fun d2 => Nat.strongRecOn d2 (fun d2 ih2 => ?_)
        intro k h1 hk hka S1 eM eK
        have g1 := S1.gg g
        have hc1 := S1.fc hc
        have hR1 := S1.fM hR
        obtain ⟨M0, M1, M2, M3, M4, Q0, Q1, Q2, S0, N0, N1⟩ := hR1.use
        refine r_iload hm rfl (k := ?_)
        refine r_iconst hm rfl (k := ?_)
        refine r_icmp_ge (t := 109) hm rfl rfl (fun c92 => ?_) (fun c92 => ?_)
        · refine r_iload hm rfl (k := ?_)
          refine r_iconst hm rfl (k := ?_)
          refine r_icmp_ne (t := 129) hm rfl rfl (fun c112 => ?_) (fun c112 => ?_)
          · refine r_iload_n hm rfl (k := ?_)
            refine r_istore_n hm rfl (k := ?_)
            refine r_iload hm rfl (k := ?_)
            refine r_iconst hm rfl (k := ?_)
            refine r_icmp_ne (t := 151) hm rfl rfl (fun c134 => ?_) (fun c134 => ?_)
            · refine r_iload_n hm rfl (k := ?_)
              refine r_istore_n hm rfl (k := ?_)
              refine r_iload hm rfl (k := ?_)
              refine r_istore_n hm rfl (k := ?_)
              have eF := (nsS_0 (i := i) k0 0).2.1
              have eB := (nsS_0 (i := i) k0 0).2.2.1
              rw [if_neg (by omega)] at eF eB
              have b9 := m_find_156 g hc hc3 hR hok hi2 (fun h3 z5 z6 z7 a9 b9 c9 => ih (d - 1) (by omega) (i + 1) h3 z5 z6 z7 (by omega) a9 b9 c9) (F := (nsN x i).2.1) (B := (nsN x i).2.2.1) ⟨fun _ => by omega, fun _ => by omega⟩ ⟨fun _ => by omega, fun _ => by omega⟩ k0 h1 (some (.inl (k : Int))) S1 (fun q hq => by rw [eK q hq, if_pos (by omega)]) eM
              rw [(nsS_0 k0 0).2.2.2] at b9
              exact b9
            · exfalso; omega
          · refine r_aload_n hm rfl (k := ?_)
            refine r_bipush hm rfl (k := ?_)
            refine r_callv (j2 := 176) hm rfl rfl rfl rfl rfl rfl (by first | assumption | exact (g1.1 _).trans rfl) (Nat.le_of_ble_eq_true rfl) (Nat.le_of_ble_eq_true rfl) rfl ⟨Nat.le_of_ble_eq_true rfl, Nat.le_of_ble_eq_true rfl, Nat.le_of_ble_eq_true rfl, Nat.le_of_ble_eq_true rfl, Nat.le_of_ble_eq_true rfl⟩ rfl (m_rule g1 hc1 hc3 hR1 (i := 10) (by omega)) (fun v9 h9 p9 => ?_)
            obtain ⟨e1, e2⟩ := p9
            subst e2
            replace e1 := e1.symm
            subst e1
            change RN 173 121 _ _ _ 0 0 _
            dsimp only [Option.toList, List.cons_append, List.nil_append]
            refine r_iconst hm rfl (k := ?_)
            refine r_icmp_ne (t := 129) hm rfl rfl (fun c122 => ?_) (fun c122 => ?_)
            · refine r_iload_n hm rfl (k := ?_)
              refine r_istore_n hm rfl (k := ?_)
              refine r_iload hm rfl (k := ?_)
              refine r_iconst hm rfl (k := ?_)
              refine r_icmp_ne (t := 151) hm rfl rfl (fun c134 => ?_) (fun c134 => ?_)
              · exfalso; omega
              · refine r_aload_n hm rfl (k := ?_)
                refine r_bipush hm rfl (k := ?_)
                refine r_callv (j2 := 176) hm rfl rfl rfl rfl rfl rfl (by first | assumption | exact (g1.1 _).trans rfl) (Nat.le_of_ble_eq_true rfl) (Nat.le_of_ble_eq_true rfl) rfl ⟨Nat.le_of_ble_eq_true rfl, Nat.le_of_ble_eq_true rfl, Nat.le_of_ble_eq_true rfl, Nat.le_of_ble_eq_true rfl, Nat.le_of_ble_eq_true rfl⟩ rfl (m_rule g1 hc1 hc3 hR1 (i := 10) (by omega)) (fun v9 h9 p9 => ?_)
                obtain ⟨e1, e2⟩ := p9
                subst e2
                replace e1 := e1.symm
                subst e1
                change RN 173 143 _ _ _ 0 0 _
                dsimp only [Option.toList, List.cons_append, List.nil_append]
                refine r_iconst hm rfl (k := ?_)
                refine r_icmp_ne (t := 151) hm rfl rfl (fun c144 => ?_) (fun c144 => ?_)
                · refine r_iload_n hm rfl (k := ?_)
                  refine r_istore_n hm rfl (k := ?_)
                  refine r_iload hm rfl (k := ?_)
                  refine r_istore_n hm rfl (k := ?_)
                  have eF := (nsS_0 (i := i) k0 0).2.1
                  have eB := (nsS_0 (i := i) k0 0).2.2.1
                  rw [if_neg (by omega)] at eF eB
                  have b9 := m_find_156 g hc hc3 hR hok hi2 (fun h3 z5 z6 z7 a9 b9 c9 => ih (d - 1) (by omega) (i + 1) h3 z5 z6 z7 (by omega) a9 b9 c9) (F := (nsN x i).2.1) (B := (nsN x i).2.2.1) ⟨fun _ => by omega, fun _ => by omega⟩ ⟨fun _ => by omega, fun _ => by omega⟩ k0 h1 (some (.inl (k : Int))) S1 (fun q hq => by rw [eK q hq, if_pos (by omega)]) eM
                  rw [(nsS_0 k0 0).2.2.2] at b9
                  exact b9
                · exfalso; omega
            · refine r_iconst hm rfl (k := ?_)
              refine r_goto (t := 130) hm rfl (k := ?_)
              refine r_istore_n hm rfl (k := ?_)
              refine r_iload hm rfl (k := ?_)
              refine r_iconst hm rfl (k := ?_)
              refine r_icmp_ne (t := 151) hm rfl rfl (fun c134 => ?_) (fun c134 => ?_)
              · exfalso; omega
              · refine r_aload_n hm rfl (k := ?_)
                refine r_bipush hm rfl (k := ?_)
                refine r_callv (j2 := 176) hm rfl rfl rfl rfl rfl rfl (by first | assumption | exact (g1.1 _).trans rfl) (Nat.le_of_ble_eq_true rfl) (Nat.le_of_ble_eq_true rfl) rfl ⟨Nat.le_of_ble_eq_true rfl, Nat.le_of_ble_eq_true rfl, Nat.le_of_ble_eq_true rfl, Nat.le_of_ble_eq_true rfl, Nat.le_of_ble_eq_true rfl⟩ rfl (m_rule g1 hc1 hc3 hR1 (i := 10) (by omega)) (fun v9 h9 p9 => ?_)
                obtain ⟨e1, e2⟩ := p9
                subst e2
                replace e1 := e1.symm
                subst e1
                change RN 173 143 _ _ _ 0 0 _
                dsimp only [Option.toList, List.cons_append, List.nil_append]
                refine r_iconst hm rfl (k := ?_)
                refine r_icmp_ne (t := 151) hm rfl rfl (fun c144 => ?_) (fun c144 => ?_)
                · exfalso; omega
                · refine r_iconst hm rfl (k := ?_)
                  refine r_goto (t := 152) hm rfl (k := ?_)
                  refine r_istore_n hm rfl (k := ?_)
                  refine r_iload hm rfl (k := ?_)
                  refine r_istore_n hm rfl (k := ?_)
                  have eF := (nsS_0 (i := i) k0 0).2.1
                  have eB := (nsS_0 (i := i) k0 0).2.2.1
                  rw [if_pos ⟨by omega, by omega⟩] at eF eB
                  have b9 := m_find_156 g hc hc3 hR hok hi2 (fun h3 z5 z6 z7 a9 b9 c9 => ih (d - 1) (by omega) (i + 1) h3 z5 z6 z7 (by omega) a9 b9 c9) (F := 0) (B := 0) ⟨fun _ => by omega, fun _ => by omega⟩ ⟨fun _ => by omega, fun _ => by omega⟩ k0 h1 (some (.inl (k : Int))) S1 (fun q hq => by rw [eK q hq, if_pos (by omega)]) eM
                  rw [(nsS_0 k0 0).2.2.2] at b9
                  exact b9
        · refine r_aload_n hm rfl (k := ?_)
          refine r_getR (hm := hm) (hf := rfl) (hd := rfl) (hs := (by first | assumption | exact (g1.1 _).trans rfl)) (hv := (by first | assumption | exact g1.2 _ _ _ rfl | exact M0 _ (by omega) | exact M1 _ (by omega) | exact M2 _ (by omega) | exact M3 _ (by omega) | exact M4 _ (by omega) | exact Q0 _ _ (by omega) (by omega) | exact Q1 _ _ (by omega) (by omega) | exact Q2 _ _ (by omega) (by omega) | exact S0 _ (by omega) | rfl)) (k := ?_)
          refine r_iload hm rfl (k := ?_)
          refine r_iconst hm rfl (k := ?_)
          refine r_iast (hm := hm) (hf := rfl) (h28 := (by omega)) (hs := (by first | assumption | exact (g1.1 _).trans rfl)) (hi := rfl) (hn := (by omega)) (k := ?_)
          refine r_iinc hm rfl (hr := (by omega)) (k := ?_)
          refine r_goto (t := 89) hm rfl (k := ?_)
          refine ih2 (d2 - 1) (by omega) (k + 1) _ (by omega) (by omega) (Sm.put S1 (by unfold regF; omega)) (NmM.same (S := fun a k => a = 1102) eM (Sm.put Sm.refl (by omega)) (fun a k z => by omega)) (fun q hq => ?_)
          by_cases e1 : q + 1 = k
          · rw [e1, putI_eq, if_pos (by omega), (nsS_0 k0 q).1, if_neg (by omega), if_neg (by omega)]
          · rw [putI_ne (by omega), eK q hq]
            by_cases e2 : q + 1 < k
            · rw [if_pos e2, if_pos (by omega)]
            · rw [if_neg e2, if_neg (by omega)]
  · refine r_aload_n hm rfl (k := ?_)
    refine r_getR (hm := hm) (hf := rfl) (hd := rfl) (hs := (by first | assumption | exact (g1.1 _).trans rfl)) (hv := (by first | assumption | exact g1.2 _ _ _ rfl | exact M0 _ (by omega) | exact M1 _ (by omega) | exact M2 _ (by omega) | exact M3 _ (by omega) | exact M4 _ (by omega) | exact Q0 _ _ (by omega) (by omega) | exact Q1 _ _ (by omega) (by omega) | exact Q2 _ _ (by omega) (by omega) | exact S0 _ (by omega) | rfl)) (k := ?_)
    refine r_iload_n hm rfl (k := ?_)
    refine r_iconst hm rfl (k := ?_)
    refine r_iast (hm := hm) (hf := rfl) (h28 := (by omega)) (hs := (by first | assumption | exact (g1.1 _).trans rfl)) (hi := rfl) (hn := (by omega)) (k := ?_)
    refine r_iinc hm rfl (hr := (by omega)) (k := ?_)
    refine r_goto (t := 2) hm rfl (k := ?_)
    exact ih (d - 1) (by omega) (k + 1) _ (by omega) (Sm.put S1 (by unfold regF; omega)) (fun q hq => if e : q = k then (by subst e; exact putI_eq) else (by rw [putI_ne (by omega)]; exact C1 q (by omega)))
