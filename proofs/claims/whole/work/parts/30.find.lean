/-! the numbers of all items: reference -/
def smL (s u : Nat → Int) (l q d : Nat) : Int := if s (5 + l) = 1 then sm (fun q => sdn (u (q - 1)).toNat (s (1 + q)) + 1) q d else 0
theorem sm_shift {f : Nat → Int} {e : Nat} : ∀ d i, sm (fun q => f (q + e)) i d = sm f (i + e) d := by
  intro d
  induction d with
  | zero => intro i; rfl
  | succ d ih => intro i; simp only [sm]; rw [ih (i + 1), show i + 1 + e = i + e + 1 by omega]
theorem m_saidHeading_l {L : Nat} {h : Hp} {c : Nat} {x : Tx} (g : GG L h) (hc : h.2.1 1085 12 = (c : Int)) (hc3 : c ≤ 3) (hR : RepM h c x) (hst : okStl x.2.2.2) (hu : ∀ q, 1 ≤ q → q < 5 → 0 ≤ h.2.1 1102 q ∧ h.2.1 1102 q ≤ 100) {l : Nat} (hl1 : 1 ≤ l) (hl4 : l ≤ 4) {r : Int} : ∀ (d q : Nat) (s : Int), q + d = l → 1 ≤ q → 0 ≤ s ∧ s ≤ 30 * q → s + smL x.2.2.2 (fun q => h.2.1 1102 (q + 1)) l q d = r → RN 177 21 [some (.inr (.inr (some 1085))), some (.inl (l : Int)), some (.inl s), some (.inl (q : Int))] [] h 0 0 (fun v h2 => h2 = h ∧ v = some (.inl r)) := by
  obtain ⟨M0, M1, M2, M3, M4, Q0, Q1, Q2, S0, N0, N1⟩ := hR.use
  have hm : mrec 177 = some nM177 := rfl
  intro d
  induction d with
  | zero =>
    intro q s hq h1 hs hr
    refine r_iload_n hm rfl (k := ?_)
    refine r_iload_n hm rfl (k := ?_)
    refine r_icmp_ge (t := 69) hm rfl rfl (fun c23 => ?_) (fun c23 => ?_)
    · refine r_iload_n hm rfl (k := ?_)
      refine r_ireturn hm rfl rfl (by rfl) (Nat.le_of_ble_eq_true rfl) (Nat.le_of_ble_eq_true rfl) ?_
      exact ⟨rfl, by rw [← hr]; unfold smL; split <;> simp [sm]⟩
    · exfalso; omega
  | succ d ih =>
    intro q s hq h1 hs hr
    have eq1 : q - 1 + 1 = q := by omega
    refine r_iload_n hm rfl (k := ?_)
    refine r_iload_n hm rfl (k := ?_)
    refine r_icmp_ge (t := 69) hm rfl rfl (fun c23 => ?_) (fun c23 => ?_)
    · exfalso; omega
    · refine r_aload_n hm rfl (k := ?_)
      refine r_bipush hm rfl (k := ?_)
      refine r_iload_n hm rfl (k := ?_)
      refine r_iadd hm rfl (hr := (by omega)) (k := ?_)
      refine r_iconst hm rfl (k := ?_)
      refine r_isub hm rfl (hr := (by omega)) (k := ?_)
      have qr := m_rule g hc hc3 hR (i := 5 + l) (by omega)
      rw [show (((5 + l : Nat)) : Int) = 6 + (l : Int) - 1 by omega] at qr
      refine r_callv (j2 := 176) hm rfl rfl rfl rfl rfl rfl (by first | assumption | (rw [g.1]; rfl)) (Nat.le_of_ble_eq_true rfl) (Nat.le_of_ble_eq_true rfl) rfl ⟨Nat.le_of_ble_eq_true rfl, Nat.le_of_ble_eq_true rfl, Nat.le_of_ble_eq_true rfl, Nat.le_of_ble_eq_true rfl, Nat.le_of_ble_eq_true rfl⟩ rfl (qr) (fun v9 h9 p9 => ?_)
      obtain ⟨e1, e2⟩ := p9
      subst e2
      replace e1 := e1.symm
      subst e1
      change RN 177 36 _ _ _ 0 0 _
      dsimp only [Option.toList, List.cons_append, List.nil_append]
      refine r_iconst hm rfl (k := ?_)
      refine r_icmp_ne (t := 69) hm rfl rfl (fun c37 => ?_) (fun c37 => ?_)
      · refine r_iload_n hm rfl (k := ?_)
        refine r_ireturn hm rfl rfl (by rfl) (Nat.le_of_ble_eq_true rfl) (Nat.le_of_ble_eq_true rfl) ?_
        exact ⟨rfl, by rw [← hr]; unfold smL; rw [if_neg (by omega), Int.add_zero]⟩
      · refine r_iload_n hm rfl (k := ?_)
        refine r_aload_n hm rfl (k := ?_)
        refine r_getR (hm := hm) (hf := rfl) (hd := rfl) (hs := (by first | assumption | (rw [g.1]; rfl))) (hv := (by first | assumption | exact g.2 _ _ _ rfl | exact M0 _ (by omega) | exact M1 _ (by omega) | exact M2 _ (by omega) | exact M3 _ (by omega) | exact M4 _ (by omega) | exact Q0 _ _ (by omega) (by omega) | exact Q1 _ _ (by omega) (by omega) | exact Q2 _ _ (by omega) (by omega) | exact S0 _ (by omega) | rfl)) (k := ?_)
        refine r_iload_n hm rfl (k := ?_)
        
        refine r_iald (hm := hm) (hf := rfl) (hs := (by first | assumption | (rw [g.1]; rfl))) (kk := q) (hi := by omega) (hn := (by omega)) (hv := (by first | assumption | exact g.2 _ _ _ rfl | exact M0 _ (by omega) | exact M1 _ (by omega) | exact M2 _ (by omega) | exact M3 _ (by omega) | exact M4 _ (by omega) | exact Q0 _ _ (by omega) (by omega) | exact Q1 _ _ (by omega) (by omega) | exact Q2 _ _ (by omega) (by omega) | exact S0 _ (by omega) | rfl)) (k := ?_)
        refine r_aload_n hm rfl (k := ?_)
        refine r_iconst hm rfl (k := ?_)
        refine r_iload_n hm rfl (k := ?_)
        refine r_iadd hm rfl (hr := (by omega)) (k := ?_)
        refine r_iconst hm rfl (k := ?_)
        refine r_isub hm rfl (hr := (by omega)) (k := ?_)
        have qr := m_rule g hc hc3 hR (i := 1 + q) (by omega)
        rw [show (((1 + q : Nat)) : Int) = 2 + (q : Int) - 1 by omega] at qr
        have hu9 := hu q (by omega) (by omega)
        have hs9 := @sdn_rng (h.2.1 1102 q).toNat (x.2.2.2 (1 + q)) (by omega)
        have hf9 := hst.2.2.2.2.1 (1 + q) (by omega) (by omega)
        refine r_callv (j2 := 176) hm rfl rfl rfl rfl rfl rfl (by first | assumption | (rw [g.1]; rfl)) (Nat.le_of_ble_eq_true rfl) (Nat.le_of_ble_eq_true rfl) rfl ⟨Nat.le_of_ble_eq_true rfl, Nat.le_of_ble_eq_true rfl, Nat.le_of_ble_eq_true rfl, Nat.le_of_ble_eq_true rfl, Nat.le_of_ble_eq_true rfl⟩ rfl (qr) (fun v9 h9 p9 => ?_)
        obtain ⟨e1, e2⟩ := p9
        subst e2
        replace e1 := e1.symm
        subst e1
        change RN 177 56 _ _ _ 0 0 _
        dsimp only [Option.toList, List.cons_append, List.nil_append]
        refine r_calls (j2 := 178) hm rfl rfl rfl rfl rfl rfl (Nat.le_of_ble_eq_true rfl) (Nat.le_of_ble_eq_true rfl) rfl ⟨Nat.le_of_ble_eq_true rfl, Nat.le_of_ble_eq_true rfl, Nat.le_of_ble_eq_true rfl, Nat.le_of_ble_eq_true rfl, Nat.le_of_ble_eq_true rfl⟩ rfl (m_saidByI (by omega) (by omega) (by omega)) (fun v9 h9 p9 => ?_)
        obtain ⟨e1, e2⟩ := p9
        subst e2
        replace e1 := e1.symm
        subst e1
        change RN 177 59 _ _ _ 0 0 _
        dsimp only [Option.toList, List.cons_append, List.nil_append]
        refine r_iconst hm rfl (k := ?_)
        refine r_iadd hm rfl (hr := (by omega)) (k := ?_)
        refine r_iadd hm rfl (hr := (by omega)) (k := ?_)
        refine r_istore_n hm rfl (k := ?_)
        refine r_iinc hm rfl (hr := (by omega)) (k := ?_)
        refine r_goto (t := 21) hm rfl (k := ?_)
        exact ih (q + 1) _ (by omega) (by omega) (by omega) (by rw [← hr]; unfold smL; rw [if_pos (by omega), if_pos (by omega)]; simp only [sm]; rw [eq1]; omega)
theorem m_saidHeading {L : Nat} {h : Hp} {c : Nat} {x : Tx} (g : GG L h) (hc : h.2.1 1085 12 = (c : Int)) (hc3 : c ≤ 3) (hR : RepM h c x) (hst : okStl x.2.2.2) (hu : ∀ q, 1 ≤ q → q < 5 → 0 ≤ h.2.1 1102 q ∧ h.2.1 1102 q ≤ 100) {l : Nat} (hl1 : 1 ≤ l) (hl4 : l ≤ 4) : RN 177 0 [some (.inr (.inr (some 1085))), some (.inl (l : Int)), none, none] [] h 0 0 (fun v h2 => h2 = h ∧ v = some (.inl (nHd (fun q => h.2.1 1102 (q + 1)) x.2.2.2 l))) := by
  obtain ⟨M0, M1, M2, M3, M4, Q0, Q1, Q2, S0, N0, N1⟩ := hR.use
  have hm : mrec 177 = some nM177 := rfl
  refine r_aload_n hm rfl (k := ?_)
  refine r_getR (hm := hm) (hf := rfl) (hd := rfl) (hs := (by first | assumption | (rw [g.1]; rfl))) (hv := (by first | assumption | exact g.2 _ _ _ rfl | exact M0 _ (by omega) | exact M1 _ (by omega) | exact M2 _ (by omega) | exact M3 _ (by omega) | exact M4 _ (by omega) | exact Q0 _ _ (by omega) (by omega) | exact Q1 _ _ (by omega) (by omega) | exact Q2 _ _ (by omega) (by omega) | exact S0 _ (by omega) | rfl)) (k := ?_)
  refine r_iload_n hm rfl (k := ?_)
  refine r_iald (hm := hm) (hf := rfl) (hs := (by first | assumption | (rw [g.1]; rfl))) (kk := l) (hi := by omega) (hn := (by omega)) (hv := (by first | assumption | exact g.2 _ _ _ rfl | exact M0 _ (by omega) | exact M1 _ (by omega) | exact M2 _ (by omega) | exact M3 _ (by omega) | exact M4 _ (by omega) | exact Q0 _ _ (by omega) (by omega) | exact Q1 _ _ (by omega) (by omega) | exact Q2 _ _ (by omega) (by omega) | exact S0 _ (by omega) | rfl)) (k := ?_)
  refine r_aload_n hm rfl (k := ?_)
  refine r_iconst hm rfl (k := ?_)
  refine r_iload_n hm rfl (k := ?_)
  refine r_iadd hm rfl (hr := (by omega)) (k := ?_)
  refine r_iconst hm rfl (k := ?_)
  refine r_isub hm rfl (hr := (by omega)) (k := ?_)
  have qr := m_rule g hc hc3 hR (i := 1 + l) (by omega)
  rw [show (((1 + l : Nat)) : Int) = 2 + (l : Int) - 1 by omega] at qr
  have hu9 := hu l (by omega) (by omega)
  have hs9 := @sdn_rng (h.2.1 1102 l).toNat (x.2.2.2 (1 + l)) (by omega)
  have hf9 := hst.2.2.2.2.1 (1 + l) (by omega) (by omega)
  refine r_callv (j2 := 176) hm rfl rfl rfl rfl rfl rfl (by first | assumption | (rw [g.1]; rfl)) (Nat.le_of_ble_eq_true rfl) (Nat.le_of_ble_eq_true rfl) rfl ⟨Nat.le_of_ble_eq_true rfl, Nat.le_of_ble_eq_true rfl, Nat.le_of_ble_eq_true rfl, Nat.le_of_ble_eq_true rfl, Nat.le_of_ble_eq_true rfl⟩ rfl (qr) (fun v9 h9 p9 => ?_)
  obtain ⟨e1, e2⟩ := p9
  subst e2
  replace e1 := e1.symm
  subst e1
  change RN 177 15 _ _ _ 0 0 _
  dsimp only [Option.toList, List.cons_append, List.nil_append]
  refine r_calls (j2 := 178) hm rfl rfl rfl rfl rfl rfl (Nat.le_of_ble_eq_true rfl) (Nat.le_of_ble_eq_true rfl) rfl ⟨Nat.le_of_ble_eq_true rfl, Nat.le_of_ble_eq_true rfl, Nat.le_of_ble_eq_true rfl, Nat.le_of_ble_eq_true rfl, Nat.le_of_ble_eq_true rfl⟩ rfl (m_saidByI (by omega) (by omega) (by omega)) (fun v9 h9 p9 => ?_)
  obtain ⟨e1, e2⟩ := p9
  subst e2
  replace e1 := e1.symm
  subst e1
  change RN 177 18 _ _ _ 0 0 _
  dsimp only [Option.toList, List.cons_append, List.nil_append]
  refine r_istore_n hm rfl (k := ?_)
  refine r_iconst hm rfl (k := ?_)
  refine r_istore_n hm rfl (k := ?_)
  exact m_saidHeading_l g hc hc3 hR hst hu hl1 hl4 (l - 1) 1 _ (by omega) (by omega) (by omega) (by unfold nHd smL; dsimp only; rw [show l - 1 + 1 = l by omega])
