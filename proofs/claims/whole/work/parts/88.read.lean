/-! the style read: the reference, to its end -/
def FxR (h h2 : Hp) : Prop := SmL (fun a _ => 1085 ≤ a) h h2
theorem FxR.of {h h2 : Hp} (m : FxM h h2) : FxR h h2 := ⟨m.1, by rw [m.2.1], m.2.2⟩
theorem InvC.frR {L : Nat} {h h2 : Hp} {S : St} (I : InvC L h S) (m : FxR h h2) : InvC L h2 S := I.fr (m.gg I.1) (fun a k _ => by rw [m.2.1]) (fun a k e => m.2.2 a k (fun z => e (by unfold idle; omega)))
theorem prN_end {b : Nat → Int} {n : Nat} {d : Nat} {s : Rd} {c : Nat} (h : tkz b n s.1 = 0 ∨ s.2.1 ≠ 0) : prN b n d s c = (s, c) := by
  cases d with
  | zero => rfl
  | succ d => exact if_pos h
set_option maxHeartbeats 4000000 in
set_option maxRecDepth 8000 in
theorem m_read {L : Nat} {h : Hp} {S : St} (I : InvM L h S) (ok : okS S) : RN 227 0 [some (.inr (.inr (some (1085)))), none, none, none, none] [] h 0 0 (fun v h2 => InvM L h2 (oRead S) ∧ FxR h h2 ∧ v = some (.inl (aRead S))) := by
  have hm : mrec 227 = some nM227 := rfl
  obtain ⟨g, hR, hV, hK, hG, hL, hB, hFl⟩ := id I
  have g1 := g
  refine r_aload_n hm rfl (k := ?_)
  refine r_iconst hm rfl (k := ?_)
  refine r_putI (hm := hm) (hf := rfl) (hd := rfl) (hs := (by first | assumption | exact (g1.1 _).trans rfl)) (hfin := Or.inl rfl) (hz := fun q9 => absurd q9 (by decide)) (k := ?_)
  refine r_aload_n hm rfl (k := ?_)
  refine r_iconst hm rfl (k := ?_)
  refine r_putI (hm := hm) (hf := rfl) (hd := rfl) (hs := (by first | assumption | exact (g1.1 _).trans rfl)) (hfin := Or.inl rfl) (hz := fun q9 => absurd q9 (by decide)) (k := ?_)
  refine r_iconst hm rfl (k := ?_)
  refine r_istore_n hm rfl (k := ?_)
  suffices LP : ∀ (d k : Nat) (h1 : Hp), k + d = 13 → SmL (fun a k => (a = 1085 ∧ (k = 50 ∨ k = 51 ∨ k = 54 ∨ k = 55 ∨ k = 56)) ∨ a = 1126) h h1 → h1.2.1 1085 50 = -1 → h1.2.1 1085 51 = ((0 : Nat) : Int) → (∀ q, q < k → h1.2.1 1126 q = sty0 q) → RN 227 12 [some (.inr (.inr (some (1085)))), some (.inl (k : Int)), none, none, none] [] h1 0 0 (fun v h2 => InvM L h2 (oRead S) ∧ FxR h h2 ∧ v = some (.inl (aRead S))) from LP 13 0 _ (by omega) (SmL.put (SmL.put SmL.refl (by omega)) (by omega)) (by rw [putI_ne (by omega), putI_eq]) putI_eq (fun q hq => absurd hq (Nat.not_lt_zero _))
  refine fun d => Nat.strongRecOn d (fun d ih => ?_)
  intro k h1 hd S1 f50 f51 fFr
  have g1 := S1.gg g
  refine r_iload_n hm rfl (k := ?_)
  refine r_bipush hm rfl (k := ?_)
  refine r_icmp_ge (t := 66) hm rfl rfl (fun c15 => ?_) (fun c15 => ?_)
  · refine r_iconst hm rfl (k := ?_)
    refine r_istore_n hm rfl (k := ?_)
    refine r_iconst hm rfl (k := ?_)
    refine r_istore_n hm rfl (k := ?_)
    refine r_iconst hm rfl (k := ?_)
    refine r_istore_n hm rfl (k := ?_)
    suffices LP2 : ∀ (d c : Nat) (s : Rd) (h1 : Hp) (sv : Int) (z4 : Option Vl), c + d = 160 → okR S.2.2.2.2.2.1 S.2.2.2.2.1 s → (s.2.1 = 0 → c ≤ s.1) → SmL (fun a k => (a = 1085 ∧ (k = 50 ∨ k = 51 ∨ k = 54 ∨ k = 55 ∨ k = 56)) ∨ a = 1126) h h1 → h1.2.1 1085 50 = s.2.2.1 → (s.2.1 = 0 → ∃ p2 : Nat, h1.2.1 1085 51 = (p2 : Int) ∧ p2 ≤ S.2.2.2.2.1 ∧ sk S.2.2.2.2.2.1 S.2.2.2.2.1 p2 = s.1 ∧ ∀ k, k < 13 → h1.2.1 1126 k = s.2.2.2.1 k) → (s.2.1 = 0 → sv = sn s.2.2.2.2.1 s.2.2.2.2.2) → prN S.2.2.2.2.2.1 S.2.2.2.2.1 d s c = rdE S → RN 227 72 [some (.inr (.inr (some (1085)))), some (.inl sv), some (.inl (c : Int)), some (.inl (s.2.1)), z4] [] h1 0 0 (fun v h2 => InvM L h2 (oRead S) ∧ FxR h h2 ∧ v = some (.inl (aRead S))) from LP2 160 0 (stt S.2.2.2.2.2.1 S.2.2.2.2.1) _ 0 _ (by omega) okR.m_stt (fun _ => Nat.zero_le _) S1 f50 (fun _ => ⟨0, f51, Nat.zero_le _, rfl, fun k hk => fFr k (by omega)⟩) (fun _ => rfl) rfl
    clear ih f50 f51 fFr S1 hd
    refine fun d => Nat.strongRecOn d (fun d ih => ?_)
    intro c s h1 sv z4 hd ok9 hcp S1 f50 fR fS eP
    have Q0 : MQr L h S.2.2.2.2.2.1 S.2.2.2.2.1 := ⟨g, hL, ok.2.2.2.2.2.2.1, hB, ok.2.2.2.2.2.2.2⟩
    have Q1 := Q0.fr S1 (fun a k z => by omega)
    obtain ⟨g1, ql, qn, qb, qr⟩ := id Q1
    have hfn := ok9.2.2.1
    have hfn3 := ok9.2.2.2.1
    refine r_iload_n hm rfl (k := ?_)
    refine r_if_ne (t := 102) hm rfl rfl (fun c73 => ?_) (fun c73 => ?_)
    · refine r_aload_n hm rfl (k := ?_)
      refine r_iconst hm rfl (k := ?_)
      refine r_putI (hm := hm) (hf := rfl) (hd := rfl) (hs := (by first | assumption | exact (g1.1 _).trans rfl)) (hfin := Or.inl rfl) (hz := fun q9 => absurd q9 (by decide)) (k := ?_)
      refine r_iload_n hm rfl (k := ?_)
      refine r_if_le (t := 116) hm rfl rfl (fun c108 => ?_) (fun c108 => ?_)
      · exfalso; omega
      · refine r_bipush hm rfl (k := ?_)
        refine r_iload_n hm rfl (k := ?_)
        refine r_isub hm rfl (hr := (by omega)) (k := ?_)
        refine r_ireturn hm rfl rfl (by rfl) (Nat.le_of_ble_eq_true rfl) (Nat.le_of_ble_eq_true rfl) ?_
        have ePr : (s, c) = rdE S := by rw [← eP]; exact (prN_end (Or.inr c73)).symm
        have eI : ∀ a k, ¬ ((a = 1085 ∧ (k = 50 ∨ k = 51 ∨ k = 54 ∨ k = 55 ∨ k = 56)) ∨ a = 1126 ∨ (a = 1085 ∧ k = 49)) → (putI h1 1085 49 0).2.1 a k = h.2.1 a k := fun a k e => by rw [putI_ne (by omega)]; exact S1.2.2 a k (fun z => e (by have z2 : (a = 1085 ∧ (k = 50 ∨ k = 51 ∨ k = 54 ∨ k = 55 ∨ k = 56)) ∨ a = 1126 := z; omega))
        unfold oRead aRead
        rw [← ePr]
        dsimp only
        rw [if_neg c73, if_neg c73]
        refine ⟨⟨S1.gg g, hR.fr (fun a k e1 e2 => eI a k (by omega)), fun u hu e => (hV u hu e).fr (fun a k e1 e2 => eI a k (by omega)), fun u hu => (eI _ _ (by omega)).trans (hK u hu), (eI _ _ (by omega)).trans hG, putI_eq, fun k hk => absurd hk (Nat.not_lt_zero _), by rw [putI_ne (by omega)]; exact f50⟩, SmL.put (S1.mono (fun a k z => by omega)) (by omega), rfl⟩
    · have f0 : s.2.1 = 0 := Decidable.not_not.mp c73
      obtain ⟨p2, r51, rpn, rsk, rfr⟩ := fR f0
      refine r_aload_n hm rfl (k := ?_)
      refine r_callv (j2 := 228) hm rfl rfl rfl rfl rfl rfl (by first | assumption | exact (g1.1 _).trans rfl) (Nat.le_of_ble_eq_true rfl) (Nat.le_of_ble_eq_true rfl) rfl ⟨Nat.le_of_ble_eq_true rfl, Nat.le_of_ble_eq_true rfl, Nat.le_of_ble_eq_true rfl, Nat.le_of_ble_eq_true rfl, Nat.le_of_ble_eq_true rfl⟩ rfl (m_here Q1 r51 rpn) (fun v9 hD p9 => ?_)
      obtain ⟨SD, d51, e1⟩ := p9
      subst e1
      rw [rsk] at d51
      rw [rsk]
      have S2 := S1.trans (SD.mono (T := (fun a k => (a = 1085 ∧ (k = 50 ∨ k = 51 ∨ k = 54 ∨ k = 55 ∨ k = 56)) ∨ a = 1126)) (fun a k z => by omega))
      have Q2 := Q0.fr S2 (fun a k z => by omega)
      obtain ⟨g1, ql, qn, qb, qr⟩ := id Q2
      have hq9 : (hr9 S.2.2.2.2.2.1 S.2.2.2.2.1 s.1 < 0 → tkz S.2.2.2.2.2.1 S.2.2.2.2.1 s.1 = 0) ∧ (0 ≤ hr9 S.2.2.2.2.2.1 S.2.2.2.2.1 s.1 → s.1 < S.2.2.2.2.1 ∧ tkz S.2.2.2.2.2.1 S.2.2.2.2.1 s.1 ≠ 0) := by
        unfold hr9 tkz
        by_cases z : s.1 < S.2.2.2.2.1
        · rw [if_pos z, if_pos z]
          have := qr _ z
          have := @srt_rng (S.2.2.2.2.2.1 s.1)
          exact ⟨fun y => by omega, fun y => ⟨z, by omega⟩⟩
        · rw [if_neg z, if_neg z]
          exact ⟨fun _ => rfl, fun y => by omega⟩
      have d50 : hD.2.1 1085 50 = s.2.2.1 := by rw [SD.2.2 _ _ (by omega)]; exact f50
      have dFr : ∀ k, k < 13 → hD.2.1 1126 k = s.2.2.2.1 k := fun k hk => by rw [SD.2.2 _ _ (by omega)]; exact rfr k hk
      change RN 227 80 _ _ _ 0 0 _
      dsimp only [Option.toList, List.cons_append, List.nil_append]
      refine r_if_lt (t := 102) hm rfl rfl (fun c80 => ?_) (fun c80 => ?_)
      · refine r_aload_n hm rfl (k := ?_)
        refine r_iconst hm rfl (k := ?_)
        refine r_putI (hm := hm) (hf := rfl) (hd := rfl) (hs := (by first | assumption | exact (g1.1 _).trans rfl)) (hfin := Or.inl rfl) (hz := fun q9 => absurd q9 (by decide)) (k := ?_)
        refine r_iload_n hm rfl (k := ?_)
        refine r_if_le (t := 116) hm rfl rfl (fun c108 => ?_) (fun c108 => ?_)
        · refine r_iconst hm rfl (k := ?_)
          refine r_istore hm rfl (k := ?_)
          have ePr : (s, c) = rdE S := by rw [← eP]; exact (prN_end (Or.inl (hq9.1 (by omega)))).symm
          suffices LP3 : ∀ (d k : Nat) (h1 : Hp), k + d = 13 → SmL (fun a k => (a = 1085 ∧ (k = 49 ∨ k = 50 ∨ k = 51 ∨ k = 54 ∨ k = 55 ∨ k = 56)) ∨ a = 1126 ∨ (a = 1096 ∧ 39 ≤ k)) h h1 → h1.2.1 1085 49 = 0 → h1.2.1 1085 50 = s.2.2.1 → (∀ q, q < 13 → h1.2.1 1126 q = s.2.2.2.1 q) → (∀ q, q < k → h1.2.1 1096 (39 + q) = s.2.2.2.1 q) → RN 227 119 [some (.inr (.inr (some (1085)))), some (.inl sv), some (.inl (c : Int)), some (.inl (s.2.1)), some (.inl (k : Int))] [] h1 0 0 (fun v h2 => InvM L h2 (oRead S) ∧ FxR h h2 ∧ v = some (.inl (aRead S))) from LP3 13 0 _ (by omega) (SmL.put (S2.mono (fun a k z => by omega)) (by omega)) putI_eq (by rw [putI_ne (by omega)]; exact d50) (fun q hq => by rw [putI_ne (by omega)]; exact dFr q hq) (fun q hq => absurd hq (Nat.not_lt_zero _))
          clear ih S1 S2 SD Q1 Q2 d50 d51 dFr f50 fR hd
          refine fun d => Nat.strongRecOn d (fun d ih => ?_)
          intro k h1 hd S1 e49 e50 eFr eSt
          have g1 := S1.gg g
          refine r_iload hm rfl (k := ?_)
          refine r_bipush hm rfl (k := ?_)
          refine r_icmp_ge (t := 149) hm rfl rfl (fun c123 => ?_) (fun c123 => ?_)
          · refine r_iload_n hm rfl (k := ?_)
            refine r_ireturn hm rfl rfl (by rfl) (Nat.le_of_ble_eq_true rfl) (Nat.le_of_ble_eq_true rfl) ?_
            have k13 : k = 13 := by omega
            subst k13
            have eI : ∀ a k, ¬ ((a = 1085 ∧ (k = 49 ∨ k = 50 ∨ k = 51 ∨ k = 54 ∨ k = 55 ∨ k = 56)) ∨ a = 1126 ∨ (a = 1096 ∧ 39 ≤ k)) → h1.2.1 a k = h.2.1 a k := fun a k e => S1.2.2 a k e
            unfold oRead aRead
            rw [← ePr]
            dsimp only
            rw [if_pos f0, if_pos f0]
            obtain ⟨R1, R2, R3, R4, R5⟩ := id hR
            refine ⟨⟨g1, ⟨?_, R2, fun f i hf hi => ?_, fun f i k hf hi hk => ?_, fun k hk => ?_⟩, fun u hu e => ?_, fun u hu => (eI _ _ (by omega)).trans (hK u hu), (eI _ _ (by omega)).trans hG, e49, fun k hk => absurd hk (Nat.not_lt_zero _), e50⟩, S1.mono (fun a k z => by omega), rfl⟩
            · rw [eI _ _ (by omega)]; exact R1
            · rw [eI _ _ (by omega)]; exact R3 f i hf hi
            · rw [eI _ _ (by omega)]; exact R4 f i k hf hi hk
            · show h1.2.1 1096 (13 * 3 + k) = s.2.2.2.1 k
              exact eSt k hk
            · obtain ⟨V1, V2, V3, V4, V5⟩ := hV u hu e
              refine ⟨?_, V2, fun f i hf hi => ?_, fun f i k hf hi hk => ?_, fun k hk => ?_⟩
              · rw [eI _ _ (by omega)]; exact V1
              · rw [eI _ _ (by omega)]; exact V3 f i hf hi
              · rw [eI _ _ (by omega)]; exact V4 f i k hf hi hk
              · rw [eI _ _ (by omega)]; exact V5 k hk
          · refine r_aload_n hm rfl (k := ?_)
            refine r_getR (hm := hm) (hf := rfl) (hd := rfl) (hs := (by first | assumption | exact (g1.1 _).trans rfl)) (hv := (by first | exact putI_eq | exact (putI_ne (by omega)).trans (by first | exact putI_eq | exact (putI_ne (by omega)).trans (by first | first | assumption | exact g1.2 _ _ _ rfl | exact eFr _ (by omega) | exact rfl) | first | assumption | exact g1.2 _ _ _ rfl | exact eFr _ (by omega) | exact rfl) | first | assumption | exact g1.2 _ _ _ rfl | exact eFr _ (by omega) | exact rfl)) (k := ?_)
            refine r_bipush hm rfl (k := ?_)
            refine r_iload hm rfl (k := ?_)
            refine r_iadd hm rfl (hr := (by omega)) (k := ?_)
            refine r_aload_n hm rfl (k := ?_)
            refine r_getR (hm := hm) (hf := rfl) (hd := rfl) (hs := (by first | assumption | exact (g1.1 _).trans rfl)) (hv := (by first | exact putI_eq | exact (putI_ne (by omega)).trans (by first | exact putI_eq | exact (putI_ne (by omega)).trans (by first | first | assumption | exact g1.2 _ _ _ rfl | exact eFr _ (by omega) | exact rfl) | first | assumption | exact g1.2 _ _ _ rfl | exact eFr _ (by omega) | exact rfl) | first | assumption | exact g1.2 _ _ _ rfl | exact eFr _ (by omega) | exact rfl)) (k := ?_)
            refine r_iload hm rfl (k := ?_)
            refine r_iald (hm := hm) (hf := rfl) (hs := (by first | assumption | exact (g1.1 _).trans rfl)) (kk := k) (hi := by omega) (hn := (by omega)) (hv := (by first | exact putI_eq | exact (putI_ne (by omega)).trans (by first | exact putI_eq | exact (putI_ne (by omega)).trans (by first | first | assumption | exact g1.2 _ _ _ rfl | exact eFr _ (by omega) | exact rfl) | first | assumption | exact g1.2 _ _ _ rfl | exact eFr _ (by omega) | exact rfl) | first | assumption | exact g1.2 _ _ _ rfl | exact eFr _ (by omega) | exact rfl)) (k := ?_)
            refine r_iast (hm := hm) (hf := rfl) (h28 := (by omega)) (hs := (by first | assumption | exact (g1.1 _).trans rfl)) (kk := 39 + k) (hi := by omega) (hn := (by omega)) (k := ?_)
            refine r_iinc hm rfl (hr := (by omega)) (k := ?_)
            refine r_goto (t := 119) hm rfl (k := ?_)
            exact ih (d - 1) (by omega) (k + 1) _ (by omega) (SmL.put S1 (by omega)) (by rw [putI_ne (by omega)]; exact e49) (by rw [putI_ne (by omega)]; exact e50) (fun q hq => by rw [putI_ne (by omega)]; exact eFr q hq) (fun q hq => by
              by_cases e : q = k
              · rw [e, putI_eq]
              · rw [putI_ne (by omega)]; exact eSt q (by omega))
        · exfalso; omega
      · rw [fS f0]
        refine r_aload_n hm rfl (k := ?_)
        refine r_iload_n hm rfl (k := ?_)
        refine r_callv (j2 := 229) hm rfl rfl rfl rfl rfl rfl (by first | assumption | exact (g1.1 _).trans rfl) (Nat.le_of_ble_eq_true rfl) (Nat.le_of_ble_eq_true rfl) rfl ⟨Nat.le_of_ble_eq_true rfl, Nat.le_of_ble_eq_true rfl, Nat.le_of_ble_eq_true rfl, Nat.le_of_ble_eq_true rfl, Nat.le_of_ble_eq_true rfl⟩ rfl (m_readClause Q2 d51 ok9.1 ok9 ok9.2.1 f0 d50 dFr) (fun v9 hE_ p9 => ?_)
        obtain ⟨SE, x9, e1, Rs, hsn⟩ := p9
        subst e1
        have S3 := S2.trans SE
        have Q3 := Q0.fr S3 (fun a k z => by omega)
        obtain ⟨g1, ql, qn, qb, qr⟩ := id Q3
        change RN 227 88 _ _ _ 0 0 _
        dsimp only [Option.toList, List.cons_append, List.nil_append]
        refine r_istore_n hm rfl (k := ?_)
        refine r_iload_n hm rfl (k := ?_)
        refine r_aload_n hm rfl (k := ?_)
        refine r_getI (hm := hm) (hf := rfl) (hd := rfl) (hs := (by first | assumption | exact (g1.1 _).trans rfl)) (hv := (by first | exact putI_eq | exact (putI_ne (by omega)).trans (by first | exact putI_eq | exact (putI_ne (by omega)).trans (by first | first | assumption | exact g1.2 _ _ _ rfl | exact eFr _ (by omega) | exact rfl) | first | assumption | exact g1.2 _ _ _ rfl | exact eFr _ (by omega) | exact rfl) | first | assumption | exact g1.2 _ _ _ rfl | exact eFr _ (by omega) | exact rfl)) (k := ?_)
        refine r_ior hm rfl (k := ?_)
        refine r_istore_n hm rfl (k := ?_)
        refine r_iinc hm rfl (hr := (by omega)) (k := ?_)
        refine r_goto (t := 72) hm rfl (k := ?_)
        have hc9 := hcp f0
        have hlt := hq9.2 (by omega)
        have eG := prN_go (b := S.2.2.2.2.2.1) (n := S.2.2.2.2.1) (d := d) (s := s) (c := c) (by omega)
        rw [if_neg (fun z => by rcases z with z | z; exact hlt.2 z; exact z f0)] at eG
        have b9 := ih (d - 1) (by omega) (c + 1) (pcl S.2.2.2.2.2.1 S.2.2.2.2.1 s) _ (op2 (· ||| ·) (sn s.2.2.2.2.1 s.2.2.2.2.2) (hE_.2.1 1085 56)) z4 (by omega) ok9.m_pcl (fun z => by have := pcl_po ok9 z; omega) S3 Rs.2.1 (fun z => Rs.2.2 (Rs.1.trans z)) (fun z => hsn (Rs.1.trans z)) (by rw [← eP, eG])
        rw [← Rs.1] at b9
        exact b9
  · refine r_aload_n hm rfl (k := ?_)
    refine r_getR (hm := hm) (hf := rfl) (hd := rfl) (hs := (by first | assumption | exact (g1.1 _).trans rfl)) (hv := (by first | exact putI_eq | exact (putI_ne (by omega)).trans (by first | exact putI_eq | exact (putI_ne (by omega)).trans (by first | first | assumption | exact g1.2 _ _ _ rfl | exact eFr _ (by omega) | exact rfl) | first | assumption | exact g1.2 _ _ _ rfl | exact eFr _ (by omega) | exact rfl) | first | assumption | exact g1.2 _ _ _ rfl | exact eFr _ (by omega) | exact rfl)) (k := ?_)
    refine r_iload_n hm rfl (k := ?_)
    refine r_iload_n hm rfl (k := ?_)
    refine r_if_ne (t := 32) hm rfl rfl (fun c24 => ?_) (fun c24 => ?_)
    · refine r_iload_n hm rfl (k := ?_)
      refine r_iconst hm rfl (k := ?_)
      refine r_icmp_ne (t := 42) hm rfl rfl (fun c34 => ?_) (fun c34 => ?_)
      · refine r_iload_n hm rfl (k := ?_)
        refine r_bipush hm rfl (k := ?_)
        refine r_icmp_lt (t := 58) hm rfl rfl (fun c45 => ?_) (fun c45 => ?_)
        · refine r_iconst hm rfl (k := ?_)
          refine r_iast (hm := hm) (hf := rfl) (h28 := (by omega)) (hs := (by first | assumption | exact (g1.1 _).trans rfl)) (kk := k) (hi := by omega) (hn := (by omega)) (k := ?_)
          refine r_iinc hm rfl (hr := (by omega)) (k := ?_)
          refine r_goto (t := 12) hm rfl (k := ?_)
          have ek : sty0 k = 0 := by unfold sty0; (repeat' split) <;> omega
          exact ih (d - 1) (by omega) (k + 1) _ (by omega) (SmL.put S1 (by omega)) (by rw [putI_ne (by omega)]; exact f50) (by rw [putI_ne (by omega)]; exact f51) (fun q hq => by
            by_cases e : q = k
            · rw [e, putI_eq, ek]
            · rw [putI_ne (by omega)]; exact fFr q (by omega))
        · refine r_iload_n hm rfl (k := ?_)
          refine r_bipush hm rfl (k := ?_)
          refine r_icmp_ge (t := 58) hm rfl rfl (fun c51 => ?_) (fun c51 => ?_)
          · refine r_iconst hm rfl (k := ?_)
            refine r_iast (hm := hm) (hf := rfl) (h28 := (by omega)) (hs := (by first | assumption | exact (g1.1 _).trans rfl)) (kk := k) (hi := by omega) (hn := (by omega)) (k := ?_)
            refine r_iinc hm rfl (hr := (by omega)) (k := ?_)
            refine r_goto (t := 12) hm rfl (k := ?_)
            have ek : sty0 k = 0 := by unfold sty0; (repeat' split) <;> omega
            exact ih (d - 1) (by omega) (k + 1) _ (by omega) (SmL.put S1 (by omega)) (by rw [putI_ne (by omega)]; exact f50) (by rw [putI_ne (by omega)]; exact f51) (fun q hq => by
              by_cases e : q = k
              · rw [e, putI_eq, ek]
              · rw [putI_ne (by omega)]; exact fFr q (by omega))
          · refine r_iconst hm rfl (k := ?_)
            refine r_goto (t := 59) hm rfl (k := ?_)
            refine r_iast (hm := hm) (hf := rfl) (h28 := (by omega)) (hs := (by first | assumption | exact (g1.1 _).trans rfl)) (kk := k) (hi := by omega) (hn := (by omega)) (k := ?_)
            refine r_iinc hm rfl (hr := (by omega)) (k := ?_)
            refine r_goto (t := 12) hm rfl (k := ?_)
            have ek : sty0 k = 1 := by unfold sty0; (repeat' split) <;> omega
            exact ih (d - 1) (by omega) (k + 1) _ (by omega) (SmL.put S1 (by omega)) (by rw [putI_ne (by omega)]; exact f50) (by rw [putI_ne (by omega)]; exact f51) (fun q hq => by
              by_cases e : q = k
              · rw [e, putI_eq, ek]
              · rw [putI_ne (by omega)]; exact fFr q (by omega))
      · refine r_bipush hm rfl (k := ?_)
        refine r_goto (t := 59) hm rfl (k := ?_)
        refine r_iast (hm := hm) (hf := rfl) (h28 := (by omega)) (hs := (by first | assumption | exact (g1.1 _).trans rfl)) (kk := k) (hi := by omega) (hn := (by omega)) (k := ?_)
        refine r_iinc hm rfl (hr := (by omega)) (k := ?_)
        refine r_goto (t := 12) hm rfl (k := ?_)
        have ek : sty0 k = 40 := by unfold sty0; (repeat' split) <;> omega
        exact ih (d - 1) (by omega) (k + 1) _ (by omega) (SmL.put S1 (by omega)) (by rw [putI_ne (by omega)]; exact f50) (by rw [putI_ne (by omega)]; exact f51) (fun q hq => by
          by_cases e : q = k
          · rw [e, putI_eq, ek]
          · rw [putI_ne (by omega)]; exact fFr q (by omega))
    · refine r_bipush hm rfl (k := ?_)
      refine r_goto (t := 59) hm rfl (k := ?_)
      refine r_iast (hm := hm) (hf := rfl) (h28 := (by omega)) (hs := (by first | assumption | exact (g1.1 _).trans rfl)) (kk := k) (hi := by omega) (hn := (by omega)) (k := ?_)
      refine r_iinc hm rfl (hr := (by omega)) (k := ?_)
      refine r_goto (t := 12) hm rfl (k := ?_)
      have ek : sty0 k = 20 := by unfold sty0; (repeat' split) <;> omega
      exact ih (d - 1) (by omega) (k + 1) _ (by omega) (SmL.put S1 (by omega)) (by rw [putI_ne (by omega)]; exact f50) (by rw [putI_ne (by omega)]; exact f51) (fun q hq => by
        by_cases e : q = k
        · rw [e, putI_eq, ek]
        · rw [putI_ne (by omega)]; exact fFr q (by omega))
