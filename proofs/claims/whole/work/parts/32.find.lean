/-! the numbers of all items: reference, the loop -/
set_option maxRecDepth 8000 in
theorem m_find_168 {L : Nat} {h : Hp} {x : Tx} (g : GG L h) {i : Nat} (hi : i < 60) (hl : 1 ≤ x.2.1 2 i ∧ x.2.1 2 i ≤ 4) {F B : Int} {P : Option Vl → Hp → Prop} (K : ∀ (h3 : Hp), Sm (fun a q => a = 1099 ∧ 4 * i ≤ q ∧ q < 4 * i + 4) h h3 → (∀ q : Nat, (q : Int) < x.2.1 2 i → h3.2.1 1099 (4 * i + q) = h.2.1 1102 (q + 1)) → RN 173 202 [some (.inr (.inr (some 1085))), some (.inl (nsN x (i + 1)).2.2.2), some (.inl F), some (.inl B), some (.inl (i : Int)), some (.inl (x.2.1 1 i)), some (.inl (x.2.1 2 i)), some (.inl (x.2.1 2 i + 1))] [] h3 0 0 P) : ∀ (d k : Nat) (h1 : Hp), (k : Int) + (d : Int) = x.2.1 2 i + 1 → 1 ≤ k → Sm (fun a q => a = 1099 ∧ 4 * i ≤ q ∧ q < 4 * i + 4) h h1 → (∀ q : Nat, q + 1 < k → h1.2.1 1099 (4 * i + q) = h.2.1 1102 (q + 1)) → RN 173 168 [some (.inr (.inr (some 1085))), some (.inl (nsN x (i + 1)).2.2.2), some (.inl F), some (.inl B), some (.inl (i : Int)), some (.inl (x.2.1 1 i)), some (.inl (x.2.1 2 i)), some (.inl (k : Int))] [] h1 0 0 P := by
  have hm : mrec 173 = some nM173 := rfl
  intro d
  induction d with
  | zero =>
    intro k h1 hk hk1 S1 C1
    have g1 := S1.gg g
    refine r_iload hm rfl (k := ?_)
    refine r_iload hm rfl (k := ?_)
    refine r_icmp_gt (t := 202) hm rfl rfl (fun c172 => ?_) (fun c172 => ?_)
    · have ek : (k : Int) = x.2.1 2 i + 1 := by omega
      rw [ek]
      exact K h1 S1 (fun q hq => C1 q (by omega))
    · exfalso; omega
  | succ d ih =>
    intro k h1 hk hk1 S1 C1
    have g1 := S1.gg g
    refine r_iload hm rfl (k := ?_)
    refine r_iload hm rfl (k := ?_)
    refine r_icmp_gt (t := 202) hm rfl rfl (fun c172 => ?_) (fun c172 => ?_)
    · exfalso; omega
    · refine r_aload_n hm rfl (k := ?_)
      refine r_getR (hm := hm) (hf := rfl) (hd := rfl) (hs := (by first | assumption | exact (g1.1 _).trans rfl)) (hv := (by first | assumption | exact g1.2 _ _ _ rfl | rfl)) (k := ?_)
      refine r_iconst hm rfl (k := ?_)
      refine r_iload hm rfl (k := ?_)
      refine r_imul hm rfl (hr := (by omega)) (k := ?_)
      refine r_iload hm rfl (k := ?_)
      refine r_iadd hm rfl (hr := (by omega)) (k := ?_)
      refine r_iconst hm rfl (k := ?_)
      refine r_isub hm rfl (hr := (by omega)) (k := ?_)
      refine r_aload_n hm rfl (k := ?_)
      refine r_getR (hm := hm) (hf := rfl) (hd := rfl) (hs := (by first | assumption | exact (g1.1 _).trans rfl)) (hv := (by first | assumption | exact g1.2 _ _ _ rfl | rfl)) (k := ?_)
      refine r_iload hm rfl (k := ?_)
      refine r_iald (hm := hm) (hf := rfl) (hs := (by first | assumption | exact (g1.1 _).trans rfl)) (kk := k) (hi := by omega) (hn := (by omega)) (hv := (by first | assumption | exact g1.2 _ _ _ rfl | rfl)) (k := ?_)
      refine r_iast (hm := hm) (hf := rfl) (h28 := (by omega)) (hs := (by first | assumption | exact (g1.1 _).trans rfl)) (kk := 4 * i + k - 1) (hi := by omega) (hn := (by omega)) (k := ?_)
      refine r_iinc hm rfl (hr := (by omega)) (k := ?_)
      refine r_goto (t := 168) hm rfl (k := ?_)
      refine ih (k + 1) _ (by omega) (by omega) (Sm.put S1 (by omega)) (fun q hq => ?_)
      by_cases hq2 : q + 1 = k
      · subst hq2
        rw [show 4 * i + (q + 1) - 1 = 4 * i + q by omega, putI_eq]
        exact S1.2.2 _ _ (by omega)
      · rw [putI_ne (by omega)]
        exact C1 q (by omega)
set_option maxRecDepth 8000 in
theorem m_find_156 {L : Nat} {h : Hp} {c : Nat} {x : Tx} (g : GG L h) (hc : h.2.1 1085 12 = (c : Int)) (hc3 : c ≤ 3) (hR : RepM h c x) (hok : okTx x) {i : Nat} (hi : i < x.1) {P : Option Vl → Hp → Prop} (K : ∀ (h3 : Hp) (z5 z6 z7 : Option Vl), Sm regF h h3 → lvO h3 x (i + 1) → NmM h3 x (i + 1) → RN 173 29 [some (.inr (.inr (some 1085))), some (.inl (nsN x (i + 1)).2.2.2), some (.inl (nsN x (i + 1)).2.1), some (.inl (nsN x (i + 1)).2.2.1), some (.inl ((i : Int) + 1)), z5, z6, z7] [] h3 0 0 P) {F B : Int} (kF : (x.2.1 1 i = 2 → F + 1 = (nsN x (i + 1)).2.1) ∧ (x.2.1 1 i ≠ 2 → F = (nsN x (i + 1)).2.1)) (kB : (x.2.1 1 i = 3 → B + 1 = (nsN x (i + 1)).2.2.1) ∧ (x.2.1 1 i ≠ 3 → B = (nsN x (i + 1)).2.2.1)) (k0 : x.2.1 1 i = 0) (h1 : Hp) (z7 : Option Vl) (S1 : Sm regF h h1) (eL : lvO h1 x (i + 1)) (eM : NmM h1 x i) : RN 173 156 [some (.inr (.inr (some 1085))), some (.inl (nsN x (i + 1)).2.2.2), some (.inl F), some (.inl B), some (.inl (i : Int)), some (.inl (x.2.1 1 i)), some (.inl (x.2.1 2 i)), z7] [] h1 0 0 P := by
  have hm : mrec 173 = some nM173 := rfl
  have hit := hok.2.1 i hi
  have n60 := hok.1
  have hst := hok.2.2.2.2
  obtain ⟨u1, u2, u3, u4, u5⟩ := nsN_ok hok (i + 1) (by omega)
  have hlv := hit.2.2.2.2.1
  have hH : -1 ≤ (nsN x (i + 1)).2.2.2 ∧ (nsN x (i + 1)).2.2.2 < x.1 := by omega
  have hsec : nSec x i = (i : Int) := (nsS_0 k0 0).2.2.2
  have g1 := S1.gg g
  have hc1 := S1.fc hc
  have hR1 := S1.fM hR
  obtain ⟨M0, M1, M2, M3, M4, Q0, Q1, Q2, S0, N0, N1⟩ := hR1.use
  refine r_aload_n hm rfl (k := ?_)
  refine r_getR (hm := hm) (hf := rfl) (hd := rfl) (hs := (by first | assumption | exact (g1.1 _).trans rfl)) (hv := (by first | assumption | exact g1.2 _ _ _ rfl | exact M0 _ (by omega) | exact M1 _ (by omega) | exact M2 _ (by omega) | exact M3 _ (by omega) | exact M4 _ (by omega) | exact Q0 _ _ (by omega) (by omega) | exact Q1 _ _ (by omega) (by omega) | exact Q2 _ _ (by omega) (by omega) | exact S0 _ (by omega) | rfl)) (k := ?_)
  refine r_iload hm rfl (k := ?_)
  refine r_iload hm rfl (k := ?_)
  refine r_iast (hm := hm) (hf := rfl) (h28 := (by omega)) (hs := (by first | assumption | exact (g1.1 _).trans rfl)) (hi := rfl) (hn := (by omega)) (k := ?_)
  refine r_iconst hm rfl (k := ?_)
  refine r_istore hm rfl (k := ?_)
  refine m_find_168 (i := i) (h := putI h1 1098 i (x.2.1 2 i)) (x := x) ((Sm.put S1 (by unfold regF; omega)).gg g) (by omega) (by omega) (fun h3 S3 C3 => ?_) (x.2.1 2 i).toNat 1 _ (by omega) (by omega) Sm.refl (fun q hq => by omega)
  have S4 : Sm regF h h3 := (Sm.put S1 (by unfold regF; omega)).trans (S3.mono (fun a k z => by unfold regF; omega))
  have lv3 : lvO h3 x (i + 1) := fun q hq => by rw [S3.2.2 _ _ (by omega), putI_ne (by omega)]; exact eL q hq
  have lvD : h3.2.1 1102 (x.2.1 2 i).toNat = nOwn x i := by
    have := lv3 ((x.2.1 2 i).toNat - 1) (by omega)
    rw [show (x.2.1 2 i).toNat - 1 + 1 = (x.2.1 2 i).toNat by omega] at this
    rw [this]
    unfold nOwn
    rw [if_pos k0, show (x.2.1 2 i - 1).toNat = (x.2.1 2 i).toNat - 1 by omega]
  have g1 := S4.gg g
  refine r_aload_n hm rfl (k := ?_)
  refine r_getR (hm := hm) (hf := rfl) (hd := rfl) (hs := (by first | assumption | exact (g1.1 _).trans rfl)) (hv := (by first | assumption | exact g1.2 _ _ _ rfl | exact M0 _ (by omega) | exact M1 _ (by omega) | exact M2 _ (by omega) | exact M3 _ (by omega) | exact M4 _ (by omega) | exact Q0 _ _ (by omega) (by omega) | exact Q1 _ _ (by omega) (by omega) | exact Q2 _ _ (by omega) (by omega) | exact S0 _ (by omega) | exact lvD | rfl)) (k := ?_)
  refine r_iload hm rfl (k := ?_)
  refine r_aload_n hm rfl (k := ?_)
  refine r_getR (hm := hm) (hf := rfl) (hd := rfl) (hs := (by first | assumption | exact (g1.1 _).trans rfl)) (hv := (by first | assumption | exact g1.2 _ _ _ rfl | exact M0 _ (by omega) | exact M1 _ (by omega) | exact M2 _ (by omega) | exact M3 _ (by omega) | exact M4 _ (by omega) | exact Q0 _ _ (by omega) (by omega) | exact Q1 _ _ (by omega) (by omega) | exact Q2 _ _ (by omega) (by omega) | exact S0 _ (by omega) | exact lvD | rfl)) (k := ?_)
  refine r_iload hm rfl (k := ?_)
  refine r_iald (hm := hm) (hf := rfl) (hs := (by first | assumption | exact (g1.1 _).trans rfl)) (kk := (x.2.1 2 i).toNat) (hi := by omega) (hn := (by omega)) (hv := lvD) (k := ?_)
  refine r_iast (hm := hm) (hf := rfl) (h28 := (by omega)) (hs := (by first | assumption | exact (g1.1 _).trans rfl)) (hi := rfl) (hn := (by omega)) (k := ?_)
  refine r_aload_n hm rfl (k := ?_)
  refine r_getR (hm := hm) (hf := rfl) (hd := rfl) (hs := (by first | assumption | exact (g1.1 _).trans rfl)) (hv := (by first | assumption | exact g1.2 _ _ _ rfl | exact M0 _ (by omega) | exact M1 _ (by omega) | exact M2 _ (by omega) | exact M3 _ (by omega) | exact M4 _ (by omega) | exact Q0 _ _ (by omega) (by omega) | exact Q1 _ _ (by omega) (by omega) | exact Q2 _ _ (by omega) (by omega) | exact S0 _ (by omega) | exact lvD | rfl)) (k := ?_)
  refine r_iload hm rfl (k := ?_)
  refine r_aload_n hm rfl (k := ?_)
  refine r_iload hm rfl (k := ?_)
  have S5 := Sm.put (v := nOwn x i) S4 (show regF 1100 i by unfold regF; omega)
  have qH := m_saidHeading (S5.gg g) (S5.fc hc) hc3 (S5.fM hR) hst (fun q h1 h2 => by rw [putI_ne (by omega), show q = q - 1 + 1 by omega, lv3 (q - 1) (by omega)]; have := u1 (q - 1); omega) (l := (x.2.1 2 i).toNat) (by omega) (by omega)
  rw [show (((x.2.1 2 i).toNat : Nat) : Int) = x.2.1 2 i by omega] at qH
  have eV : nHd (fun q => (putI h3 1100 i (nOwn x i)).2.1 1102 (q + 1)) x.2.2.2 (x.2.1 2 i).toNat = nSaid x i := by
    unfold nSaid
    rw [if_pos k0]
    exact nHd_congr (by omega) (by omega) (fun q hq => by rw [putI_ne (by omega)]; exact lv3 q hq)
  rw [eV] at qH
  refine r_callv (j2 := 177) hm rfl rfl rfl rfl rfl rfl (by first | assumption | exact (g1.1 _).trans rfl) (Nat.le_of_ble_eq_true rfl) (Nat.le_of_ble_eq_true rfl) rfl ⟨Nat.le_of_ble_eq_true rfl, Nat.le_of_ble_eq_true rfl, Nat.le_of_ble_eq_true rfl, Nat.le_of_ble_eq_true rfl, Nat.le_of_ble_eq_true rfl⟩ rfl (qH) (fun v9 h9 p9 => ?_)
  obtain ⟨e1, e2⟩ := p9
  subst e2
  replace e1 := e1.symm
  subst e1
  change RN 173 228 _ _ _ 0 0 _
  dsimp only [Option.toList, List.cons_append, List.nil_append]
  refine r_iast (hm := hm) (hf := rfl) (h28 := (by omega)) (hs := (by first | assumption | exact (g1.1 _).trans rfl)) (hi := rfl) (hn := (by omega)) (k := ?_)
  refine r_goto (t := 320) hm rfl (k := ?_)
  have nl : nLen x i = x.2.1 2 i := by
    unfold nLen
    rw [if_neg (by omega), hsec, Int.toNat_natCast]
  refine m_find_320 g hc hc3 hR hok hi K kF kB _ _ _ (Sm.put S5 (by unfold regF; omega)) (fun q hq => by rw [putI_ne (by omega), putI_ne (by omega)]; exact lv3 q hq) (NmM.same (S := fun a k => (a = 1099 ∧ 4 * i ≤ k ∧ k < 4 * i + 4) ∨ (k = i ∧ a ≠ 1099)) eM (Sm.put (Sm.put ((Sm.put Sm.refl (by omega)).trans (S3.mono (fun a k z => by omega))) (by omega)) (by omega)) (fun a k z => by omega)) ?_ (fun k hk hl2 => ?_) (fun _ => ?_) (fun _ => ?_)
  · rw [putI_ne (by omega), putI_ne (by omega), S3.2.2 _ _ (by omega), putI_eq, nl]
  · rw [nl] at hl2
    rw [putI_ne (by omega), putI_ne (by omega), C3 k hl2, putI_ne (by omega), eL k hk]
    unfold nRow
    rw [nl, if_pos hl2]
  · rw [putI_ne (by omega), putI_eq]
  · rw [putI_eq]
