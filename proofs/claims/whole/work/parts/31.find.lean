/-! the numbers of all items: reference, the fold -/
def regF (a _k : Nat) : Prop := 1097 ≤ a ∧ a ≤ 1102
theorem Sm.fM {h h2 : Hp} {c : Nat} {x : Tx} (p : Sm regF h h2) (R : RepM h c x) : RepM h2 c x := p.repM (fun a k q => by unfold regF at q; omega) R
theorem Sm.fc {h h2 : Hp} {c : Int} (p : Sm regF h h2) (e : h.2.1 1085 12 = c) : h2.2.1 1085 12 = c := (p.2.2 _ _ (by unfold regF; omega)).trans e
def NmM (h : Hp) (x : Tx) (i : Nat) : Prop := ∀ q, q < i → h.2.1 1097 q = nSec x q ∧ h.2.1 1098 q = nLen x q ∧ h.2.1 1100 q = nOwn x q ∧ h.2.1 1101 q = nSaid x q ∧ ∀ k : Nat, k < 4 → (k : Int) < nLen x q → h.2.1 1099 (4 * q + k) = nRow x q k
def lvO (h : Hp) (x : Tx) (i : Nat) : Prop := ∀ q, q < 4 → h.2.1 1102 (q + 1) = (nsN x i).1 q
theorem NmM.same {h h2 : Hp} {x : Tx} {i : Nat} {S : Nat → Nat → Prop} (m : NmM h x i) (p : Sm S h h2) (hS : ∀ a k, S a k → a = 1102 ∨ (a = 1099 ∧ 4 * i ≤ k) ∨ (a ≠ 1099 ∧ i ≤ k)) : NmM h2 x i := by
  intro q hq
  obtain ⟨m1, m2, m3, m4, m5⟩ := m q hq
  refine ⟨?_, ?_, ?_, ?_, fun k hk hl => ?_⟩
  · rw [p.2.2 _ _ (fun z => by have := hS _ _ z; omega)]; exact m1
  · rw [p.2.2 _ _ (fun z => by have := hS _ _ z; omega)]; exact m2
  · rw [p.2.2 _ _ (fun z => by have := hS _ _ z; omega)]; exact m3
  · rw [p.2.2 _ _ (fun z => by have := hS _ _ z; omega)]; exact m4
  · rw [p.2.2 _ _ (fun z => by have := hS _ _ z; omega)]; exact m5 k hk hl
theorem nsN_none {x : Tx} : ∀ i, (nsN x i).2.2.2 < 0 → ∀ l, (nsN x i).1 l = 0 := by
  intro i
  induction i with
  | zero => intro _ _; rfl
  | succ i ih =>
    intro h1 l
    by_cases hk : x.2.1 1 i = 0
    · rw [(nsS_0 hk 0).2.2.2] at h1; omega
    · obtain ⟨k1, -, -, k4⟩ := nsS_1 hk
      rw [k4] at h1
      rw [k1]
      exact ih h1 l
theorem nsN_head {x : Tx} : ∀ i, 0 ≤ (nsN x i).2.2.2 → (nsN x i).1 = (nsN x ((nsN x i).2.2.2.toNat + 1)).1 ∧ nSec x (nsN x i).2.2.2.toNat = (nsN x i).2.2.2 := by
  intro i
  induction i with
  | zero => intro h1; exact absurd (show (0 : Int) ≤ -1 from h1) (by decide)
  | succ i ih =>
    intro h1
    by_cases hk : x.2.1 1 i = 0
    · have e := (nsS_0 (i := i) hk 0).2.2.2
      rw [e, Int.toNat_natCast]
      exact ⟨rfl, e⟩
    · obtain ⟨k1, -, -, k4⟩ := nsS_1 hk
      rw [k4] at h1 ⊢
      rw [k1]
      exact ih h1
set_option maxRecDepth 8000 in
theorem m_find_320 {L : Nat} {h : Hp} {c : Nat} {x : Tx} (g : GG L h) (hc : h.2.1 1085 12 = (c : Int)) (hc3 : c ≤ 3) (hR : RepM h c x) (hok : okTx x) {i : Nat} (hi : i < x.1) {P : Option Vl → Hp → Prop} (K : ∀ (h3 : Hp) (z5 z6 z7 : Option Vl), Sm regF h h3 → lvO h3 x (i + 1) → NmM h3 x (i + 1) → RN 173 29 [some (.inr (.inr (some 1085))), some (.inl (nsN x (i + 1)).2.2.2), some (.inl (nsN x (i + 1)).2.1), some (.inl (nsN x (i + 1)).2.2.1), some (.inl ((i : Int) + 1)), z5, z6, z7] [] h3 0 0 P) {F B : Int} (kF : (x.2.1 1 i = 2 → F + 1 = (nsN x (i + 1)).2.1) ∧ (x.2.1 1 i ≠ 2 → F = (nsN x (i + 1)).2.1)) (kB : (x.2.1 1 i = 3 → B + 1 = (nsN x (i + 1)).2.2.1) ∧ (x.2.1 1 i ≠ 3 → B = (nsN x (i + 1)).2.2.1)) (h1 : Hp) (z6 z7 : Option Vl) (S1 : Sm regF h h1) (eL : lvO h1 x (i + 1)) (eM : NmM h1 x i) (eRM : h1.2.1 1098 i = nLen x i) (eRW : ∀ k : Nat, k < 4 → (k : Int) < nLen x i → h1.2.1 1099 (4 * i + k) = nRow x i k) (eC : ¬ (x.2.1 1 i = 2 ∨ x.2.1 1 i = 3) → h1.2.1 1100 i = nOwn x i) (eSa : ¬ (x.2.1 1 i = 2 ∨ x.2.1 1 i = 3) → h1.2.1 1101 i = nSaid x i) : RN 173 320 [some (.inr (.inr (some 1085))), some (.inl (nsN x (i + 1)).2.2.2), some (.inl F), some (.inl B), some (.inl (i : Int)), some (.inl (x.2.1 1 i)), z6, z7] [] h1 0 0 P := by
  have hm : mrec 173 = some nM173 := rfl
  have hit := hok.2.1 i hi
  have n60 := hok.1
  have hst := hok.2.2.2.2
  obtain ⟨u1, u2, u3, u4, u5⟩ := nsN_ok hok (i + 1) (by omega)
  have hlv := hit.2.2.2.2.1
  have hH : -1 ≤ (nsN x (i + 1)).2.2.2 ∧ (nsN x (i + 1)).2.2.2 < x.1 := by omega
  have g1 := S1.gg g
  have hc1 := S1.fc hc
  have hR1 := S1.fM hR
  obtain ⟨M0, M1, M2, M3, M4, Q0, Q1, Q2, S0, N0, N1⟩ := hR1.use
  refine r_aload_n hm rfl (k := ?_)
  refine r_getR (hm := hm) (hf := rfl) (hd := rfl) (hs := (by first | assumption | exact (g1.1 _).trans rfl)) (hv := (by first | assumption | exact g1.2 _ _ _ rfl | exact M0 _ (by omega) | exact M1 _ (by omega) | exact M2 _ (by omega) | exact M3 _ (by omega) | exact M4 _ (by omega) | exact Q0 _ _ (by omega) (by omega) | exact Q1 _ _ (by omega) (by omega) | exact Q2 _ _ (by omega) (by omega) | exact S0 _ (by omega) | rfl)) (k := ?_)
  refine r_iload hm rfl (k := ?_)
  refine r_iload_n hm rfl (k := ?_)
  refine r_iast (hm := hm) (hf := rfl) (h28 := (by omega)) (hs := (by first | assumption | exact (g1.1 _).trans rfl)) (hi := rfl) (hn := (by omega)) (k := ?_)
  refine r_iload hm rfl (k := ?_)
  refine r_iconst hm rfl (k := ?_)
  refine r_icmp_eq (t := 340) hm rfl rfl (fun c331 => ?_) (fun c331 => ?_)
  · refine r_iload_n hm rfl (k := ?_)
    refine r_iload hm rfl (k := ?_)
    refine r_iconst hm rfl (k := ?_)
    refine r_icmp_ne (t := 351) hm rfl rfl (fun c344 => ?_) (fun c344 => ?_)
    · exfalso; omega
    · refine r_iconst hm rfl (k := ?_)
      refine r_goto (t := 352) hm rfl (k := ?_)
      refine r_iadd hm rfl (hr := (by omega)) (k := ?_)
      refine r_istore_n hm rfl (k := ?_)
      refine r_iload_n hm rfl (k := ?_)
      refine r_iload hm rfl (k := ?_)
      refine r_iconst hm rfl (k := ?_)
      refine r_icmp_ne (t := 365) hm rfl rfl (fun c358 => ?_) (fun c358 => ?_)
      · refine r_iconst hm rfl (k := ?_)
        refine r_iadd hm rfl (hr := (by omega)) (k := ?_)
        refine r_istore_n hm rfl (k := ?_)
        refine r_aload_n hm rfl (k := ?_)
        refine r_getR (hm := hm) (hf := rfl) (hd := rfl) (hs := (by first | assumption | exact (g1.1 _).trans rfl)) (hv := (by first | assumption | exact g1.2 _ _ _ rfl | exact M0 _ (by omega) | exact M1 _ (by omega) | exact M2 _ (by omega) | exact M3 _ (by omega) | exact M4 _ (by omega) | exact Q0 _ _ (by omega) (by omega) | exact Q1 _ _ (by omega) (by omega) | exact Q2 _ _ (by omega) (by omega) | exact S0 _ (by omega) | rfl)) (k := ?_)
        refine r_iload hm rfl (k := ?_)
        refine r_iload hm rfl (k := ?_)
        refine r_iconst hm rfl (k := ?_)
        refine r_icmp_ne (t := 384) hm rfl rfl (fun c377 => ?_) (fun c377 => ?_)
        · exfalso; omega
        · refine r_iload_n hm rfl (k := ?_)
          refine r_goto (t := 385) hm rfl (k := ?_)
          refine r_iast (hm := hm) (hf := rfl) (h28 := (by omega)) (hs := (by first | assumption | exact (g1.1 _).trans rfl)) (hi := rfl) (hn := (by omega)) (k := ?_)
          refine r_aload_n hm rfl (k := ?_)
          refine r_getR (hm := hm) (hf := rfl) (hd := rfl) (hs := (by first | assumption | exact (g1.1 _).trans rfl)) (hv := (by first | assumption | exact g1.2 _ _ _ rfl | exact M0 _ (by omega) | exact M1 _ (by omega) | exact M2 _ (by omega) | exact M3 _ (by omega) | exact M4 _ (by omega) | exact Q0 _ _ (by omega) (by omega) | exact Q1 _ _ (by omega) (by omega) | exact Q2 _ _ (by omega) (by omega) | exact S0 _ (by omega) | rfl)) (k := ?_)
          refine r_iload hm rfl (k := ?_)
          refine r_aload_n hm rfl (k := ?_)
          refine r_getR (hm := hm) (hf := rfl) (hd := rfl) (hs := (by first | assumption | exact (g1.1 _).trans rfl)) (hv := (by first | assumption | exact g1.2 _ _ _ rfl | exact M0 _ (by omega) | exact M1 _ (by omega) | exact M2 _ (by omega) | exact M3 _ (by omega) | exact M4 _ (by omega) | exact Q0 _ _ (by omega) (by omega) | exact Q1 _ _ (by omega) (by omega) | exact Q2 _ _ (by omega) (by omega) | exact S0 _ (by omega) | rfl)) (k := ?_)
          refine r_iload hm rfl (k := ?_)
          refine r_iald (hm := hm) (hf := rfl) (hs := (by first | assumption | exact (g1.1 _).trans rfl)) (hi := rfl) (hn := (by omega)) (hv := putI_eq) (k := ?_)
          have hg1 := fgs_rng (F + 1)
          have hg2 := fgs_rng (B + 1)
          have hu0 := u1 0
          have hs9 := @sdn_rng ((nsN x (i + 1)).1 0).toNat (x.2.2.2 2) (by omega)
          have hf9 := hst.2.2.2.2.1 2 (by omega) (by omega)
          refine r_calls (j2 := 179) hm rfl rfl rfl rfl rfl rfl (Nat.le_of_ble_eq_true rfl) (Nat.le_of_ble_eq_true rfl) rfl ⟨Nat.le_of_ble_eq_true rfl, Nat.le_of_ble_eq_true rfl, Nat.le_of_ble_eq_true rfl, Nat.le_of_ble_eq_true rfl, Nat.le_of_ble_eq_true rfl⟩ rfl (m_figures (by omega) (by omega)) (fun v9 h9 p9 => ?_)
          obtain ⟨e1, e2⟩ := p9
          subst e2
          replace e1 := e1.symm
          subst e1
          change RN 173 402 _ _ _ 0 0 _
          dsimp only [Option.toList, List.cons_append, List.nil_append]
          refine r_aload_n hm rfl (k := ?_)
          refine r_bipush hm rfl (k := ?_)
          refine r_callv (j2 := 176) hm rfl rfl rfl rfl rfl rfl (by first | assumption | exact (g1.1 _).trans rfl) (Nat.le_of_ble_eq_true rfl) (Nat.le_of_ble_eq_true rfl) rfl ⟨Nat.le_of_ble_eq_true rfl, Nat.le_of_ble_eq_true rfl, Nat.le_of_ble_eq_true rfl, Nat.le_of_ble_eq_true rfl, Nat.le_of_ble_eq_true rfl⟩ rfl (m_rule (i := 10) ((Sm.put (Sm.put S1 (show regF 1097 i by unfold regF; omega)) (show regF 1100 i by unfold regF; omega)).gg g) ((Sm.put (Sm.put S1 (show regF 1097 i by unfold regF; omega)) (show regF 1100 i by unfold regF; omega)).fc hc) hc3 ((Sm.put (Sm.put S1 (show regF 1097 i by unfold regF; omega)) (show regF 1100 i by unfold regF; omega)).fM hR) (by omega)) (fun v9 h9 p9 => ?_)
          obtain ⟨e1, e2⟩ := p9
          subst e2
          replace e1 := e1.symm
          subst e1
          change RN 173 408 _ _ _ 0 0 _
          dsimp only [Option.toList, List.cons_append, List.nil_append]
          refine r_iconst hm rfl (k := ?_)
          refine r_icmp_ne (t := 431) hm rfl rfl (fun c409 => ?_) (fun c409 => ?_)
          · refine r_iconst hm rfl (k := ?_)
            refine r_iadd hm rfl (hr := (by omega)) (k := ?_)
            refine r_iast (hm := hm) (hf := rfl) (h28 := (by omega)) (hs := (by first | assumption | exact (g1.1 _).trans rfl)) (hi := rfl) (hn := (by omega)) (k := ?_)
            refine r_iinc hm rfl (hr := (by omega)) (k := ?_)
            refine r_goto (t := 29) hm rfl (k := ?_)
            have f9 : F + 1 = (nsN x (i + 1)).2.1 := by omega
            have b9 : B + 0 = (nsN x (i + 1)).2.2.1 := by omega
            rw [b9]
            show RN _ _ [_, _, some (.inl (F + 1)), _, _, _, _, _] _ _ _ _ _
            rw [f9]
            refine K _ _ _ _ (Sm.put (Sm.put (Sm.put S1 (by unfold regF; omega)) (by unfold regF; omega)) (by unfold regF; omega)) (fun q hq => by rw [putI_ne (by omega), putI_ne (by omega), putI_ne (by omega)]; exact eL q hq) (fun q hq => ?_)
            by_cases hq2 : q = i
            · subst hq2
              refine ⟨?_, ?_, ?_, ?_, fun k hk hl => ?_⟩
              · rw [putI_ne (by omega), putI_ne (by omega)]; exact putI_eq
              · rw [putI_ne (by omega), putI_ne (by omega), putI_ne (by omega)]; exact eRM
              · rw [putI_ne (by omega), putI_eq]; unfold nOwn; rw [if_neg (by omega), if_pos (show x.2.1 1 q = 2 by omega)]; first | done | omega
              · rw [putI_eq]
                unfold nSaid nOwn
                rw [if_neg (show ¬ x.2.1 1 q = 0 by omega), if_pos (show x.2.1 1 q = 2 ∨ x.2.1 1 q = 3 by omega), if_neg (show ¬ x.2.1 1 q = 0 by omega), if_pos (show x.2.1 1 q = 2 by omega)]
                first | (rw [if_pos (by omega)]; omega) | (rw [if_neg (by omega)]; omega)
              · rw [putI_ne (by omega), putI_ne (by omega), putI_ne (by omega)]; exact eRW k hk hl
            · exact (NmM.same (i := i) eM (Sm.put (Sm.put (Sm.put (S := fun a k => k = i ∧ a ≠ 1099) Sm.refl (by omega)) (by omega)) (by omega)) (fun a k z => by omega)) q (by omega)
          · refine r_aload_n hm rfl (k := ?_)
            refine r_getR (hm := hm) (hf := rfl) (hd := rfl) (hs := (by first | assumption | exact (g1.1 _).trans rfl)) (hv := (by first | assumption | exact g1.2 _ _ _ rfl | exact M0 _ (by omega) | exact M1 _ (by omega) | exact M2 _ (by omega) | exact M3 _ (by omega) | exact M4 _ (by omega) | exact Q0 _ _ (by omega) (by omega) | exact Q1 _ _ (by omega) (by omega) | exact Q2 _ _ (by omega) (by omega) | exact S0 _ (by omega) | rfl)) (k := ?_)
            refine r_iconst hm rfl (k := ?_)
            refine r_iald (hm := hm) (hf := rfl) (hs := (by first | assumption | exact (g1.1 _).trans rfl)) (kk := 0 + 1) (hi := by omega) (hn := (by omega)) (hv := ((putI_ne (by omega)).trans ((putI_ne (by omega)).trans (eL 0 (by omega))))) (k := ?_)
            refine r_aload_n hm rfl (k := ?_)
            refine r_iconst hm rfl (k := ?_)
            refine r_callv (j2 := 176) hm rfl rfl rfl rfl rfl rfl (by first | assumption | exact (g1.1 _).trans rfl) (Nat.le_of_ble_eq_true rfl) (Nat.le_of_ble_eq_true rfl) rfl ⟨Nat.le_of_ble_eq_true rfl, Nat.le_of_ble_eq_true rfl, Nat.le_of_ble_eq_true rfl, Nat.le_of_ble_eq_true rfl, Nat.le_of_ble_eq_true rfl⟩ rfl (m_rule (i := 2) ((Sm.put (Sm.put S1 (show regF 1097 i by unfold regF; omega)) (show regF 1100 i by unfold regF; omega)).gg g) ((Sm.put (Sm.put S1 (show regF 1097 i by unfold regF; omega)) (show regF 1100 i by unfold regF; omega)).fc hc) hc3 ((Sm.put (Sm.put S1 (show regF 1097 i by unfold regF; omega)) (show regF 1100 i by unfold regF; omega)).fM hR) (by omega)) (fun v9 h9 p9 => ?_)
            obtain ⟨e1, e2⟩ := p9
            subst e2
            replace e1 := e1.symm
            subst e1
            change RN 173 423 _ _ _ 0 0 _
            dsimp only [Option.toList, List.cons_append, List.nil_append]
            refine r_calls (j2 := 178) hm rfl rfl rfl rfl rfl rfl (Nat.le_of_ble_eq_true rfl) (Nat.le_of_ble_eq_true rfl) rfl ⟨Nat.le_of_ble_eq_true rfl, Nat.le_of_ble_eq_true rfl, Nat.le_of_ble_eq_true rfl, Nat.le_of_ble_eq_true rfl, Nat.le_of_ble_eq_true rfl⟩ rfl (m_saidByI (by omega) (by omega) (by omega)) (fun v9 h9 p9 => ?_)
            obtain ⟨e1, e2⟩ := p9
            subst e2
            replace e1 := e1.symm
            subst e1
            change RN 173 426 _ _ _ 0 0 _
            dsimp only [Option.toList, List.cons_append, List.nil_append]
            refine r_iconst hm rfl (k := ?_)
            refine r_iadd hm rfl (hr := (by omega)) (k := ?_)
            refine r_goto (t := 432) hm rfl (k := ?_)
            refine r_iadd hm rfl (hr := (by omega)) (k := ?_)
            refine r_iast (hm := hm) (hf := rfl) (h28 := (by omega)) (hs := (by first | assumption | exact (g1.1 _).trans rfl)) (hi := rfl) (hn := (by omega)) (k := ?_)
            refine r_iinc hm rfl (hr := (by omega)) (k := ?_)
            refine r_goto (t := 29) hm rfl (k := ?_)
            have f9 : F + 1 = (nsN x (i + 1)).2.1 := by omega
            have b9 : B + 0 = (nsN x (i + 1)).2.2.1 := by omega
            rw [b9]
            show RN _ _ [_, _, some (.inl (F + 1)), _, _, _, _, _] _ _ _ _ _
            rw [f9]
            refine K _ _ _ _ (Sm.put (Sm.put (Sm.put S1 (by unfold regF; omega)) (by unfold regF; omega)) (by unfold regF; omega)) (fun q hq => by rw [putI_ne (by omega), putI_ne (by omega), putI_ne (by omega)]; exact eL q hq) (fun q hq => ?_)
            by_cases hq2 : q = i
            · subst hq2
              refine ⟨?_, ?_, ?_, ?_, fun k hk hl => ?_⟩
              · rw [putI_ne (by omega), putI_ne (by omega)]; exact putI_eq
              · rw [putI_ne (by omega), putI_ne (by omega), putI_ne (by omega)]; exact eRM
              · rw [putI_ne (by omega), putI_eq]; unfold nOwn; rw [if_neg (by omega), if_pos (show x.2.1 1 q = 2 by omega)]; first | done | omega
              · rw [putI_eq]
                unfold nSaid nOwn
                rw [if_neg (show ¬ x.2.1 1 q = 0 by omega), if_pos (show x.2.1 1 q = 2 ∨ x.2.1 1 q = 3 by omega), if_neg (show ¬ x.2.1 1 q = 0 by omega), if_pos (show x.2.1 1 q = 2 by omega)]
                first | (rw [if_pos (by omega)]; omega) | (rw [if_neg (by omega)]; omega)
              · rw [putI_ne (by omega), putI_ne (by omega), putI_ne (by omega)]; exact eRW k hk hl
            · exact (NmM.same (i := i) eM (Sm.put (Sm.put (Sm.put (S := fun a k => k = i ∧ a ≠ 1099) Sm.refl (by omega)) (by omega)) (by omega)) (fun a k z => by omega)) q (by omega)
      · exfalso; omega
  · refine r_iload hm rfl (k := ?_)
    refine r_iconst hm rfl (k := ?_)
    refine r_icmp_ne (t := 434) hm rfl rfl (fun c337 => ?_) (fun c337 => ?_)
    · refine r_iinc hm rfl (hr := (by omega)) (k := ?_)
      refine r_goto (t := 29) hm rfl (k := ?_)
      have f9 : F = (nsN x (i + 1)).2.1 := by omega
      have b9 : B = (nsN x (i + 1)).2.2.1 := by omega
      rw [f9, b9]
      refine K _ _ _ _ (Sm.put S1 (by unfold regF; omega)) (fun q hq => by rw [putI_ne (by omega)]; exact eL q hq) (fun q hq => ?_)
      by_cases hq2 : q = i
      · subst hq2
        refine ⟨?_, ?_, ?_, ?_, fun k hk hl => ?_⟩
        · exact putI_eq
        · rw [putI_ne (by omega)]; exact eRM
        · rw [putI_ne (by omega)]; exact eC (by omega)
        · rw [putI_ne (by omega)]; exact eSa (by omega)
        · rw [putI_ne (by omega)]; exact eRW k hk hl
      · exact (NmM.same (i := i) eM (Sm.put (S := fun a k => k = i ∧ a ≠ 1099) Sm.refl (by omega)) (fun a k z => by omega)) q (by omega)
    · refine r_iload_n hm rfl (k := ?_)
      refine r_iload hm rfl (k := ?_)
      refine r_iconst hm rfl (k := ?_)
      refine r_icmp_ne (t := 351) hm rfl rfl (fun c344 => ?_) (fun c344 => ?_)
      · refine r_iconst hm rfl (k := ?_)
        refine r_iadd hm rfl (hr := (by omega)) (k := ?_)
        refine r_istore_n hm rfl (k := ?_)
        refine r_iload_n hm rfl (k := ?_)
        refine r_iload hm rfl (k := ?_)
        refine r_iconst hm rfl (k := ?_)
        refine r_icmp_ne (t := 365) hm rfl rfl (fun c358 => ?_) (fun c358 => ?_)
        · exfalso; omega
        · refine r_iconst hm rfl (k := ?_)
          refine r_goto (t := 366) hm rfl (k := ?_)
          refine r_iadd hm rfl (hr := (by omega)) (k := ?_)
          refine r_istore_n hm rfl (k := ?_)
          refine r_aload_n hm rfl (k := ?_)
          refine r_getR (hm := hm) (hf := rfl) (hd := rfl) (hs := (by first | assumption | exact (g1.1 _).trans rfl)) (hv := (by first | assumption | exact g1.2 _ _ _ rfl | exact M0 _ (by omega) | exact M1 _ (by omega) | exact M2 _ (by omega) | exact M3 _ (by omega) | exact M4 _ (by omega) | exact Q0 _ _ (by omega) (by omega) | exact Q1 _ _ (by omega) (by omega) | exact Q2 _ _ (by omega) (by omega) | exact S0 _ (by omega) | rfl)) (k := ?_)
          refine r_iload hm rfl (k := ?_)
          refine r_iload hm rfl (k := ?_)
          refine r_iconst hm rfl (k := ?_)
          refine r_icmp_ne (t := 384) hm rfl rfl (fun c377 => ?_) (fun c377 => ?_)
          · refine r_iload_n hm rfl (k := ?_)
            refine r_iast (hm := hm) (hf := rfl) (h28 := (by omega)) (hs := (by first | assumption | exact (g1.1 _).trans rfl)) (hi := rfl) (hn := (by omega)) (k := ?_)
            refine r_aload_n hm rfl (k := ?_)
            refine r_getR (hm := hm) (hf := rfl) (hd := rfl) (hs := (by first | assumption | exact (g1.1 _).trans rfl)) (hv := (by first | assumption | exact g1.2 _ _ _ rfl | exact M0 _ (by omega) | exact M1 _ (by omega) | exact M2 _ (by omega) | exact M3 _ (by omega) | exact M4 _ (by omega) | exact Q0 _ _ (by omega) (by omega) | exact Q1 _ _ (by omega) (by omega) | exact Q2 _ _ (by omega) (by omega) | exact S0 _ (by omega) | rfl)) (k := ?_)
            refine r_iload hm rfl (k := ?_)
            refine r_aload_n hm rfl (k := ?_)
            refine r_getR (hm := hm) (hf := rfl) (hd := rfl) (hs := (by first | assumption | exact (g1.1 _).trans rfl)) (hv := (by first | assumption | exact g1.2 _ _ _ rfl | exact M0 _ (by omega) | exact M1 _ (by omega) | exact M2 _ (by omega) | exact M3 _ (by omega) | exact M4 _ (by omega) | exact Q0 _ _ (by omega) (by omega) | exact Q1 _ _ (by omega) (by omega) | exact Q2 _ _ (by omega) (by omega) | exact S0 _ (by omega) | rfl)) (k := ?_)
            refine r_iload hm rfl (k := ?_)
            refine r_iald (hm := hm) (hf := rfl) (hs := (by first | assumption | exact (g1.1 _).trans rfl)) (hi := rfl) (hn := (by omega)) (hv := putI_eq) (k := ?_)
            have hg1 := fgs_rng (F + 1)
            have hg2 := fgs_rng (B + 1)
            have hu0 := u1 0
            have hs9 := @sdn_rng ((nsN x (i + 1)).1 0).toNat (x.2.2.2 2) (by omega)
            have hf9 := hst.2.2.2.2.1 2 (by omega) (by omega)
            refine r_calls (j2 := 179) hm rfl rfl rfl rfl rfl rfl (Nat.le_of_ble_eq_true rfl) (Nat.le_of_ble_eq_true rfl) rfl ⟨Nat.le_of_ble_eq_true rfl, Nat.le_of_ble_eq_true rfl, Nat.le_of_ble_eq_true rfl, Nat.le_of_ble_eq_true rfl, Nat.le_of_ble_eq_true rfl⟩ rfl (m_figures (by omega) (by omega)) (fun v9 h9 p9 => ?_)
            obtain ⟨e1, e2⟩ := p9
            subst e2
            replace e1 := e1.symm
            subst e1
            change RN 173 402 _ _ _ 0 0 _
            dsimp only [Option.toList, List.cons_append, List.nil_append]
            refine r_aload_n hm rfl (k := ?_)
            refine r_bipush hm rfl (k := ?_)
            refine r_callv (j2 := 176) hm rfl rfl rfl rfl rfl rfl (by first | assumption | exact (g1.1 _).trans rfl) (Nat.le_of_ble_eq_true rfl) (Nat.le_of_ble_eq_true rfl) rfl ⟨Nat.le_of_ble_eq_true rfl, Nat.le_of_ble_eq_true rfl, Nat.le_of_ble_eq_true rfl, Nat.le_of_ble_eq_true rfl, Nat.le_of_ble_eq_true rfl⟩ rfl (m_rule (i := 10) ((Sm.put (Sm.put S1 (show regF 1097 i by unfold regF; omega)) (show regF 1100 i by unfold regF; omega)).gg g) ((Sm.put (Sm.put S1 (show regF 1097 i by unfold regF; omega)) (show regF 1100 i by unfold regF; omega)).fc hc) hc3 ((Sm.put (Sm.put S1 (show regF 1097 i by unfold regF; omega)) (show regF 1100 i by unfold regF; omega)).fM hR) (by omega)) (fun v9 h9 p9 => ?_)
            obtain ⟨e1, e2⟩ := p9
            subst e2
            replace e1 := e1.symm
            subst e1
            change RN 173 408 _ _ _ 0 0 _
            dsimp only [Option.toList, List.cons_append, List.nil_append]
            refine r_iconst hm rfl (k := ?_)
            refine r_icmp_ne (t := 431) hm rfl rfl (fun c409 => ?_) (fun c409 => ?_)
            · refine r_iconst hm rfl (k := ?_)
              refine r_iadd hm rfl (hr := (by omega)) (k := ?_)
              refine r_iast (hm := hm) (hf := rfl) (h28 := (by omega)) (hs := (by first | assumption | exact (g1.1 _).trans rfl)) (hi := rfl) (hn := (by omega)) (k := ?_)
              refine r_iinc hm rfl (hr := (by omega)) (k := ?_)
              refine r_goto (t := 29) hm rfl (k := ?_)
              have f9 : F + 0 = (nsN x (i + 1)).2.1 := by omega
              have b9 : B + 1 = (nsN x (i + 1)).2.2.1 := by omega
              rw [f9, b9]
              refine K _ _ _ _ (Sm.put (Sm.put (Sm.put S1 (by unfold regF; omega)) (by unfold regF; omega)) (by unfold regF; omega)) (fun q hq => by rw [putI_ne (by omega), putI_ne (by omega), putI_ne (by omega)]; exact eL q hq) (fun q hq => ?_)
              by_cases hq2 : q = i
              · subst hq2
                refine ⟨?_, ?_, ?_, ?_, fun k hk hl => ?_⟩
                · rw [putI_ne (by omega), putI_ne (by omega)]; exact putI_eq
                · rw [putI_ne (by omega), putI_ne (by omega), putI_ne (by omega)]; exact eRM
                · rw [putI_ne (by omega), putI_eq]; unfold nOwn; rw [if_neg (by omega), if_neg (show ¬ x.2.1 1 q = 2 by omega), if_pos (show x.2.1 1 q = 3 by omega)]; first | done | omega
                · rw [putI_eq]
                  unfold nSaid nOwn
                  rw [if_neg (show ¬ x.2.1 1 q = 0 by omega), if_pos (show x.2.1 1 q = 2 ∨ x.2.1 1 q = 3 by omega), if_neg (show ¬ x.2.1 1 q = 0 by omega), if_neg (show ¬ x.2.1 1 q = 2 by omega), if_pos (show x.2.1 1 q = 3 by omega)]
                  first | (rw [if_pos (by omega)]; omega) | (rw [if_neg (by omega)]; omega)
                · rw [putI_ne (by omega), putI_ne (by omega), putI_ne (by omega)]; exact eRW k hk hl
              · exact (NmM.same (i := i) eM (Sm.put (Sm.put (Sm.put (S := fun a k => k = i ∧ a ≠ 1099) Sm.refl (by omega)) (by omega)) (by omega)) (fun a k z => by omega)) q (by omega)
            · refine r_aload_n hm rfl (k := ?_)
              refine r_getR (hm := hm) (hf := rfl) (hd := rfl) (hs := (by first | assumption | exact (g1.1 _).trans rfl)) (hv := (by first | assumption | exact g1.2 _ _ _ rfl | exact M0 _ (by omega) | exact M1 _ (by omega) | exact M2 _ (by omega) | exact M3 _ (by omega) | exact M4 _ (by omega) | exact Q0 _ _ (by omega) (by omega) | exact Q1 _ _ (by omega) (by omega) | exact Q2 _ _ (by omega) (by omega) | exact S0 _ (by omega) | rfl)) (k := ?_)
              refine r_iconst hm rfl (k := ?_)
              refine r_iald (hm := hm) (hf := rfl) (hs := (by first | assumption | exact (g1.1 _).trans rfl)) (kk := 0 + 1) (hi := by omega) (hn := (by omega)) (hv := ((putI_ne (by omega)).trans ((putI_ne (by omega)).trans (eL 0 (by omega))))) (k := ?_)
              refine r_aload_n hm rfl (k := ?_)
              refine r_iconst hm rfl (k := ?_)
              refine r_callv (j2 := 176) hm rfl rfl rfl rfl rfl rfl (by first | assumption | exact (g1.1 _).trans rfl) (Nat.le_of_ble_eq_true rfl) (Nat.le_of_ble_eq_true rfl) rfl ⟨Nat.le_of_ble_eq_true rfl, Nat.le_of_ble_eq_true rfl, Nat.le_of_ble_eq_true rfl, Nat.le_of_ble_eq_true rfl, Nat.le_of_ble_eq_true rfl⟩ rfl (m_rule (i := 2) ((Sm.put (Sm.put S1 (show regF 1097 i by unfold regF; omega)) (show regF 1100 i by unfold regF; omega)).gg g) ((Sm.put (Sm.put S1 (show regF 1097 i by unfold regF; omega)) (show regF 1100 i by unfold regF; omega)).fc hc) hc3 ((Sm.put (Sm.put S1 (show regF 1097 i by unfold regF; omega)) (show regF 1100 i by unfold regF; omega)).fM hR) (by omega)) (fun v9 h9 p9 => ?_)
              obtain ⟨e1, e2⟩ := p9
              subst e2
              replace e1 := e1.symm
              subst e1
              change RN 173 423 _ _ _ 0 0 _
              dsimp only [Option.toList, List.cons_append, List.nil_append]
              refine r_calls (j2 := 178) hm rfl rfl rfl rfl rfl rfl (Nat.le_of_ble_eq_true rfl) (Nat.le_of_ble_eq_true rfl) rfl ⟨Nat.le_of_ble_eq_true rfl, Nat.le_of_ble_eq_true rfl, Nat.le_of_ble_eq_true rfl, Nat.le_of_ble_eq_true rfl, Nat.le_of_ble_eq_true rfl⟩ rfl (m_saidByI (by omega) (by omega) (by omega)) (fun v9 h9 p9 => ?_)
              obtain ⟨e1, e2⟩ := p9
              subst e2
              replace e1 := e1.symm
              subst e1
              change RN 173 426 _ _ _ 0 0 _
              dsimp only [Option.toList, List.cons_append, List.nil_append]
              refine r_iconst hm rfl (k := ?_)
              refine r_iadd hm rfl (hr := (by omega)) (k := ?_)
              refine r_goto (t := 432) hm rfl (k := ?_)
              refine r_iadd hm rfl (hr := (by omega)) (k := ?_)
              refine r_iast (hm := hm) (hf := rfl) (h28 := (by omega)) (hs := (by first | assumption | exact (g1.1 _).trans rfl)) (hi := rfl) (hn := (by omega)) (k := ?_)
              refine r_iinc hm rfl (hr := (by omega)) (k := ?_)
              refine r_goto (t := 29) hm rfl (k := ?_)
              have f9 : F + 0 = (nsN x (i + 1)).2.1 := by omega
              have b9 : B + 1 = (nsN x (i + 1)).2.2.1 := by omega
              rw [f9, b9]
              refine K _ _ _ _ (Sm.put (Sm.put (Sm.put S1 (by unfold regF; omega)) (by unfold regF; omega)) (by unfold regF; omega)) (fun q hq => by rw [putI_ne (by omega), putI_ne (by omega), putI_ne (by omega)]; exact eL q hq) (fun q hq => ?_)
              by_cases hq2 : q = i
              · subst hq2
                refine ⟨?_, ?_, ?_, ?_, fun k hk hl => ?_⟩
                · rw [putI_ne (by omega), putI_ne (by omega)]; exact putI_eq
                · rw [putI_ne (by omega), putI_ne (by omega), putI_ne (by omega)]; exact eRM
                · rw [putI_ne (by omega), putI_eq]; unfold nOwn; rw [if_neg (by omega), if_neg (show ¬ x.2.1 1 q = 2 by omega), if_pos (show x.2.1 1 q = 3 by omega)]; first | done | omega
                · rw [putI_eq]
                  unfold nSaid nOwn
                  rw [if_neg (show ¬ x.2.1 1 q = 0 by omega), if_pos (show x.2.1 1 q = 2 ∨ x.2.1 1 q = 3 by omega), if_neg (show ¬ x.2.1 1 q = 0 by omega), if_neg (show ¬ x.2.1 1 q = 2 by omega), if_pos (show x.2.1 1 q = 3 by omega)]
                  first | (rw [if_pos (by omega)]; omega) | (rw [if_neg (by omega)]; omega)
                · rw [putI_ne (by omega), putI_ne (by omega), putI_ne (by omega)]; exact eRW k hk hl
              · exact (NmM.same (i := i) eM (Sm.put (Sm.put (Sm.put (S := fun a k => k = i ∧ a ≠ 1099) Sm.refl (by omega)) (by omega)) (by omega)) (fun a k z => by omega)) q (by omega)
          · exfalso; omega
      · exfalso; omega
