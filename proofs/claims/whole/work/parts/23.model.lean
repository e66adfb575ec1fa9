/-! readers of the reference -/
def zL (z : Int) : Int64 := (Int32.ofInt z).toInt64
theorem zL_t {z : Int} (h : inI z) : (zL z).toInt = z := by unfold zL; rw [Int32.toInt_toInt64, inI_of h]
theorem lg_lt {a b : Int64} : (lg_cmp a b).toInt < 0 ↔ a.toInt < b.toInt := by
  rw [← Int64.lt_iff_toInt_lt]
  unfold lg_cmp
  by_cases h1 : a > b
  · rw [if_pos h1]
    have h2 : ¬ a < b := fun q => by rw [Int64.lt_iff_toInt_lt] at q; have := Int64.lt_iff_toInt_lt.mp h1; omega
    simp [h2]
  · rw [if_neg h1]
    by_cases h2 : a = b
    · subst h2
      rw [if_pos rfl]
      have h3 : ¬ a < a := fun q => by rw [Int64.lt_iff_toInt_lt] at q; omega
      simp [h3]
    · rw [if_neg h2]
      have h3 : a < b := by
        rw [Int64.lt_iff_toInt_lt]
        have h4 : ¬ b.toInt < a.toInt := fun q => h1 (Int64.lt_iff_toInt_lt.mpr q)
        have h5 : a.toInt ≠ b.toInt := fun q => h2 (Int64.toInt_inj.mp q)
        omega
      simp [h3]
theorem lg_gt {a b : Int64} : 0 < (lg_cmp a b).toInt ↔ b.toInt < a.toInt := by
  unfold lg_cmp
  by_cases h1 : a > b
  · rw [if_pos h1]
    have := Int64.lt_iff_toInt_lt.mp h1
    simp [this]
  · rw [if_neg h1]
    have h4 : ¬ b.toInt < a.toInt := fun q => h1 (Int64.lt_iff_toInt_lt.mpr q)
    by_cases h2 : a = b
    · rw [if_pos h2]; simp [h4]
    · rw [if_neg h2]; simp [h4]
theorem m_in {h : Hp} {v lo hi : Int64} {z a b : Int} (hv : v.toInt = z) (ha : lo.toInt = a) (hb : hi.toInt = b) : RN 162 0 [some (.inr (.inl v)), none, some (.inr (.inl lo)), none, some (.inr (.inl hi)), none] [] h 0 0 (fun v h2 => h2 = h ∧ v = some (.inl (if a ≤ z ∧ z ≤ b then 1 else 0))) := by
  have hm : mrec 162 = some nM162 := rfl
  have e1 := @lg_lt v lo
  have e2 := @lg_gt v hi
  rw [hv, ha] at e1
  rw [hv, hb] at e2
  refine r_lload_n hm rfl (k := ?_)
  refine r_lload_n hm rfl (k := ?_)
  refine r_lcmp hm rfl (k := ?_)
  
  refine r_if_lt (t := 17) hm rfl rfl (fun c3 => ?_) (fun c3 => ?_)
  · refine r_iconst hm rfl (k := ?_)
    refine r_ireturn hm rfl rfl (by first | rfl | decide) (Nat.le_of_ble_eq_true rfl) (Nat.le_of_ble_eq_true rfl) ?_
    exact ⟨rfl, by first | (rw [if_pos (by omega)]; done) | (rw [if_neg (by omega)]; done)⟩
  · 
    refine r_lload_n hm rfl (k := ?_)
    refine r_lload hm rfl (k := ?_)
    refine r_lcmp hm rfl (k := ?_)
    refine r_if_gt (t := 17) hm rfl rfl (fun c10 => ?_) (fun c10 => ?_)
    · refine r_iconst hm rfl (k := ?_)
      refine r_ireturn hm rfl rfl (by first | rfl | decide) (Nat.le_of_ble_eq_true rfl) (Nat.le_of_ble_eq_true rfl) ?_
      exact ⟨rfl, by first | (rw [if_pos (by omega)]; done) | (rw [if_neg (by omega)]; done)⟩
    · refine r_iconst hm rfl (k := ?_)
      refine r_goto (t := 18) hm rfl (k := ?_)
      refine r_ireturn hm rfl rfl (by first | rfl | decide) (Nat.le_of_ble_eq_true rfl) (Nat.le_of_ble_eq_true rfl) ?_
      exact ⟨rfl, by first | (rw [if_pos (by omega)]; done) | (rw [if_neg (by omega)]; done)⟩
theorem RepM.use {h : Hp} {c : Nat} {x : Tx} (R : RepM h c x) : (∀ i, i < x.1 → h.2.1 1088 (60 * c + i) = x.2.1 0 i) ∧ (∀ i, i < x.1 → h.2.1 1089 (60 * c + i) = x.2.1 1 i) ∧ (∀ i, i < x.1 → h.2.1 1090 (60 * c + i) = x.2.1 2 i) ∧ (∀ i, i < x.1 → h.2.1 1091 (60 * c + i) = x.2.1 3 i) ∧ (∀ i, i < x.1 → h.2.1 1092 (60 * c + i) = x.2.1 4 i) ∧ (∀ i k : Nat, i < x.1 → (k : Int) < x.2.1 4 i → h.2.1 1093 (20 * (60 * c + i) + k) = x.2.2.1 0 i k) ∧ (∀ i k : Nat, i < x.1 → (k : Int) < x.2.1 4 i → h.2.1 1094 (20 * (60 * c + i) + k) = x.2.2.1 1 i k) ∧ (∀ i k : Nat, i < x.1 → (k : Int) < x.2.1 4 i → h.2.1 1095 (20 * (60 * c + i) + k) = x.2.2.1 2 i k) ∧ (∀ k, k < 13 → h.2.1 1096 (13 * c + k) = x.2.2.2 k) ∧ h.2.1 1086 c = (x.1 : Int) ∧ x.1 ≤ 60 := by
  obtain ⟨R1, R2, R3, R4, R5⟩ := R
  exact ⟨fun i hi => R3 0 i (by decide) hi, fun i hi => R3 1 i (by decide) hi, fun i hi => R3 2 i (by decide) hi, fun i hi => R3 3 i (by decide) hi, fun i hi => R3 4 i (by decide) hi, fun i k hi hk => R4 0 i k (by decide) hi hk, fun i k hi hk => R4 1 i k (by decide) hi hk, fun i k hi hk => R4 2 i k (by decide) hi hk, R5, R1, R2⟩
theorem m_kind {L : Nat} {h : Hp} {c : Nat} {x : Tx} (g : GG L h) (hc : h.2.1 1085 12 = (c : Int)) (hc3 : c ≤ 3) (hR : RepM h c x) {i : Nat} (hi : i < x.1) : RN 174 0 [some (.inr (.inr (some 1085))), some (.inl (i : Int))] [] h 0 0 (fun v h2 => h2 = h ∧ v = some (.inl (x.2.1 1 i))) := by
  obtain ⟨M0, M1, M2, M3, M4, Q0, Q1, Q2, S0, N0, N1⟩ := hR.use
  have hm : mrec 174 = some nM174 := rfl
  refine r_aload_n hm rfl (k := ?_)
  refine r_getR (hm := hm) (hf := rfl) (hd := rfl) (hs := (by first | assumption | (rw [g.1]; rfl))) (hv := (by first | assumption | exact g.2 _ _ _ rfl | exact M0 _ (by omega) | exact M1 _ (by omega) | exact M2 _ (by omega) | exact M3 _ (by omega) | exact M4 _ (by omega) | exact Q0 _ _ (by omega) (by omega) | exact Q1 _ _ (by omega) (by omega) | exact Q2 _ _ (by omega) (by omega) | exact S0 _ (by omega))) (k := ?_)
  refine r_bipush hm rfl (k := ?_)
  refine r_aload_n hm rfl (k := ?_)
  refine r_getI (hm := hm) (hf := rfl) (hd := rfl) (hs := (by first | assumption | (rw [g.1]; rfl))) (hv := (by first | assumption | exact g.2 _ _ _ rfl | exact M0 _ (by omega) | exact M1 _ (by omega) | exact M2 _ (by omega) | exact M3 _ (by omega) | exact M4 _ (by omega) | exact Q0 _ _ (by omega) (by omega) | exact Q1 _ _ (by omega) (by omega) | exact Q2 _ _ (by omega) (by omega) | exact S0 _ (by omega))) (k := ?_)
  refine r_imul hm rfl (hr := (by omega)) (k := ?_)
  refine r_iload_n hm rfl (k := ?_)
  refine r_iadd hm rfl (hr := (by omega)) (k := ?_)
  refine r_iald (hm := hm) (hf := rfl) (hs := (by first | assumption | (rw [g.1]; rfl))) (kk := 60 * c + i) (hi := by omega) (hn := (by omega)) (hv := (by first | assumption | exact g.2 _ _ _ rfl | exact M0 _ (by omega) | exact M1 _ (by omega) | exact M2 _ (by omega) | exact M3 _ (by omega) | exact M4 _ (by omega) | exact Q0 _ _ (by omega) (by omega) | exact Q1 _ _ (by omega) (by omega) | exact Q2 _ _ (by omega) (by omega) | exact S0 _ (by omega))) (k := ?_)
  refine r_ireturn hm rfl rfl (by rfl) (Nat.le_of_ble_eq_true rfl) (Nat.le_of_ble_eq_true rfl) ?_
  exact ⟨rfl, rfl⟩
theorem m_a {L : Nat} {h : Hp} {c : Nat} {x : Tx} (g : GG L h) (hc : h.2.1 1085 12 = (c : Int)) (hc3 : c ≤ 3) (hR : RepM h c x) {i : Nat} (hi : i < x.1) : RN 175 0 [some (.inr (.inr (some 1085))), some (.inl (i : Int))] [] h 0 0 (fun v h2 => h2 = h ∧ v = some (.inl (x.2.1 2 i))) := by
  obtain ⟨M0, M1, M2, M3, M4, Q0, Q1, Q2, S0, N0, N1⟩ := hR.use
  have hm : mrec 175 = some nM175 := rfl
  refine r_aload_n hm rfl (k := ?_)
  refine r_getR (hm := hm) (hf := rfl) (hd := rfl) (hs := (by first | assumption | (rw [g.1]; rfl))) (hv := (by first | assumption | exact g.2 _ _ _ rfl | exact M0 _ (by omega) | exact M1 _ (by omega) | exact M2 _ (by omega) | exact M3 _ (by omega) | exact M4 _ (by omega) | exact Q0 _ _ (by omega) (by omega) | exact Q1 _ _ (by omega) (by omega) | exact Q2 _ _ (by omega) (by omega) | exact S0 _ (by omega))) (k := ?_)
  refine r_bipush hm rfl (k := ?_)
  refine r_aload_n hm rfl (k := ?_)
  refine r_getI (hm := hm) (hf := rfl) (hd := rfl) (hs := (by first | assumption | (rw [g.1]; rfl))) (hv := (by first | assumption | exact g.2 _ _ _ rfl | exact M0 _ (by omega) | exact M1 _ (by omega) | exact M2 _ (by omega) | exact M3 _ (by omega) | exact M4 _ (by omega) | exact Q0 _ _ (by omega) (by omega) | exact Q1 _ _ (by omega) (by omega) | exact Q2 _ _ (by omega) (by omega) | exact S0 _ (by omega))) (k := ?_)
  refine r_imul hm rfl (hr := (by omega)) (k := ?_)
  refine r_iload_n hm rfl (k := ?_)
  refine r_iadd hm rfl (hr := (by omega)) (k := ?_)
  refine r_iald (hm := hm) (hf := rfl) (hs := (by first | assumption | (rw [g.1]; rfl))) (kk := 60 * c + i) (hi := by omega) (hn := (by omega)) (hv := (by first | assumption | exact g.2 _ _ _ rfl | exact M0 _ (by omega) | exact M1 _ (by omega) | exact M2 _ (by omega) | exact M3 _ (by omega) | exact M4 _ (by omega) | exact Q0 _ _ (by omega) (by omega) | exact Q1 _ _ (by omega) (by omega) | exact Q2 _ _ (by omega) (by omega) | exact S0 _ (by omega))) (k := ?_)
  refine r_ireturn hm rfl rfl (by rfl) (Nat.le_of_ble_eq_true rfl) (Nat.le_of_ble_eq_true rfl) ?_
  exact ⟨rfl, rfl⟩
theorem m_piecesOf {L : Nat} {h : Hp} {c : Nat} {x : Tx} (g : GG L h) (hc : h.2.1 1085 12 = (c : Int)) (hc3 : c ≤ 3) (hR : RepM h c x) {i : Nat} (hi : i < x.1) : RN 181 0 [some (.inr (.inr (some 1085))), some (.inl (i : Int))] [] h 0 0 (fun v h2 => h2 = h ∧ v = some (.inl (x.2.1 4 i))) := by
  obtain ⟨M0, M1, M2, M3, M4, Q0, Q1, Q2, S0, N0, N1⟩ := hR.use
  have hm : mrec 181 = some nM181 := rfl
  refine r_aload_n hm rfl (k := ?_)
  refine r_getR (hm := hm) (hf := rfl) (hd := rfl) (hs := (by first | assumption | (rw [g.1]; rfl))) (hv := (by first | assumption | exact g.2 _ _ _ rfl | exact M0 _ (by omega) | exact M1 _ (by omega) | exact M2 _ (by omega) | exact M3 _ (by omega) | exact M4 _ (by omega) | exact Q0 _ _ (by omega) (by omega) | exact Q1 _ _ (by omega) (by omega) | exact Q2 _ _ (by omega) (by omega) | exact S0 _ (by omega))) (k := ?_)
  refine r_bipush hm rfl (k := ?_)
  refine r_aload_n hm rfl (k := ?_)
  refine r_getI (hm := hm) (hf := rfl) (hd := rfl) (hs := (by first | assumption | (rw [g.1]; rfl))) (hv := (by first | assumption | exact g.2 _ _ _ rfl | exact M0 _ (by omega) | exact M1 _ (by omega) | exact M2 _ (by omega) | exact M3 _ (by omega) | exact M4 _ (by omega) | exact Q0 _ _ (by omega) (by omega) | exact Q1 _ _ (by omega) (by omega) | exact Q2 _ _ (by omega) (by omega) | exact S0 _ (by omega))) (k := ?_)
  refine r_imul hm rfl (hr := (by omega)) (k := ?_)
  refine r_iload_n hm rfl (k := ?_)
  refine r_iadd hm rfl (hr := (by omega)) (k := ?_)
  refine r_iald (hm := hm) (hf := rfl) (hs := (by first | assumption | (rw [g.1]; rfl))) (kk := 60 * c + i) (hi := by omega) (hn := (by omega)) (hv := (by first | assumption | exact g.2 _ _ _ rfl | exact M0 _ (by omega) | exact M1 _ (by omega) | exact M2 _ (by omega) | exact M3 _ (by omega) | exact M4 _ (by omega) | exact Q0 _ _ (by omega) (by omega) | exact Q1 _ _ (by omega) (by omega) | exact Q2 _ _ (by omega) (by omega) | exact S0 _ (by omega))) (k := ?_)
  refine r_ireturn hm rfl rfl (by rfl) (Nat.le_of_ble_eq_true rfl) (Nat.le_of_ble_eq_true rfl) ?_
  exact ⟨rfl, rfl⟩
theorem m_rule {L : Nat} {h : Hp} {c : Nat} {x : Tx} (g : GG L h) (hc : h.2.1 1085 12 = (c : Int)) (hc3 : c ≤ 3) (hR : RepM h c x) {i : Nat} (hi : i < 13) : RN 176 0 [some (.inr (.inr (some 1085))), some (.inl (i : Int))] [] h 0 0 (fun v h2 => h2 = h ∧ v = some (.inl (x.2.2.2 i))) := by
  obtain ⟨M0, M1, M2, M3, M4, Q0, Q1, Q2, S0, N0, N1⟩ := hR.use
  have hm : mrec 176 = some nM176 := rfl
  refine r_aload_n hm rfl (k := ?_)
  refine r_getR (hm := hm) (hf := rfl) (hd := rfl) (hs := (by first | assumption | (rw [g.1]; rfl))) (hv := (by first | assumption | exact g.2 _ _ _ rfl | exact M0 _ (by omega) | exact M1 _ (by omega) | exact M2 _ (by omega) | exact M3 _ (by omega) | exact M4 _ (by omega) | exact Q0 _ _ (by omega) (by omega) | exact Q1 _ _ (by omega) (by omega) | exact Q2 _ _ (by omega) (by omega) | exact S0 _ (by omega))) (k := ?_)
  refine r_bipush hm rfl (k := ?_)
  refine r_aload_n hm rfl (k := ?_)
  refine r_getI (hm := hm) (hf := rfl) (hd := rfl) (hs := (by first | assumption | (rw [g.1]; rfl))) (hv := (by first | assumption | exact g.2 _ _ _ rfl | exact M0 _ (by omega) | exact M1 _ (by omega) | exact M2 _ (by omega) | exact M3 _ (by omega) | exact M4 _ (by omega) | exact Q0 _ _ (by omega) (by omega) | exact Q1 _ _ (by omega) (by omega) | exact Q2 _ _ (by omega) (by omega) | exact S0 _ (by omega))) (k := ?_)
  refine r_imul hm rfl (hr := (by omega)) (k := ?_)
  refine r_iload_n hm rfl (k := ?_)
  refine r_iadd hm rfl (hr := (by omega)) (k := ?_)
  refine r_iald (hm := hm) (hf := rfl) (hs := (by first | assumption | (rw [g.1]; rfl))) (kk := 13 * c + i) (hi := by omega) (hn := (by omega)) (hv := (by first | assumption | exact g.2 _ _ _ rfl | exact M0 _ (by omega) | exact M1 _ (by omega) | exact M2 _ (by omega) | exact M3 _ (by omega) | exact M4 _ (by omega) | exact Q0 _ _ (by omega) (by omega) | exact Q1 _ _ (by omega) (by omega) | exact Q2 _ _ (by omega) (by omega) | exact S0 _ (by omega))) (k := ?_)
  refine r_ireturn hm rfl rfl (by rfl) (Nat.le_of_ble_eq_true rfl) (Nat.le_of_ble_eq_true rfl) ?_
  exact ⟨rfl, rfl⟩
theorem m_place {L : Nat} {h : Hp} {c : Nat} {x : Tx} (g : GG L h) (hc : h.2.1 1085 12 = (c : Int)) (hc3 : c ≤ 3) (hR : RepM h c x) {i k : Nat} (hi : i < 60) (hk : k < 20) : RN 186 0 [some (.inr (.inr (some 1085))), some (.inl (i : Int)), some (.inl (k : Int))] [] h 0 0 (fun v h2 => h2 = h ∧ v = some (.inl (((20 * (60 * c + i) + k : Nat) : Int)))) := by
  obtain ⟨M0, M1, M2, M3, M4, Q0, Q1, Q2, S0, N0, N1⟩ := hR.use
  have hm : mrec 186 = some nM186 := rfl
  refine r_bipush hm rfl (k := ?_)
  refine r_bipush hm rfl (k := ?_)
  refine r_aload_n hm rfl (k := ?_)
  refine r_getI (hm := hm) (hf := rfl) (hd := rfl) (hs := (by first | assumption | (rw [g.1]; rfl))) (hv := (by first | assumption | exact g.2 _ _ _ rfl | exact M0 _ (by omega) | exact M1 _ (by omega) | exact M2 _ (by omega) | exact M3 _ (by omega) | exact M4 _ (by omega) | exact Q0 _ _ (by omega) (by omega) | exact Q1 _ _ (by omega) (by omega) | exact Q2 _ _ (by omega) (by omega) | exact S0 _ (by omega))) (k := ?_)
  refine r_imul hm rfl (hr := (by omega)) (k := ?_)
  refine r_iload_n hm rfl (k := ?_)
  refine r_iadd hm rfl (hr := (by omega)) (k := ?_)
  refine r_imul hm rfl (hr := (by omega)) (k := ?_)
  refine r_iload_n hm rfl (k := ?_)
  refine r_iadd hm rfl (hr := (by omega)) (k := ?_)
  refine r_ireturn hm rfl rfl (by rfl) (Nat.le_of_ble_eq_true rfl) (Nat.le_of_ble_eq_true rfl) ?_
  exact ⟨rfl, by congr 2⟩
theorem m_isItem {L : Nat} {h : Hp} {x : Tx} (g : GG L h) (hR : RepM h 3 x) {i : Int} (hi : inI i) : RN 165 0 [some (.inr (.inr (some 1085))), some (.inl i)] [] h 0 0 (fun v h2 => h2 = h ∧ v = some (.inl (if 0 ≤ i ∧ i < (x.1 : Int) then 1 else 0))) := by
  obtain ⟨M0, M1, M2, M3, M4, Q0, Q1, Q2, S0, N0, N1⟩ := hR.use
  have hm : mrec 165 = some nM165 := rfl
  refine r_iload_n hm rfl (k := ?_)
  refine r_i2l hm rfl (k := ?_)
  refine r_lconst hm rfl (k := ?_)
  refine r_aload_n hm rfl (k := ?_)
  refine r_getR (hm := hm) (hf := rfl) (hd := rfl) (hs := (by first | assumption | (rw [g.1]; rfl))) (hv := (by first | assumption | exact g.2 _ _ _ rfl | exact M0 _ (by omega) | exact M1 _ (by omega) | exact M2 _ (by omega) | exact M3 _ (by omega) | exact M4 _ (by omega) | exact Q0 _ _ (by omega) (by omega) | exact Q1 _ _ (by omega) (by omega) | exact Q2 _ _ (by omega) (by omega) | exact S0 _ (by omega))) (k := ?_)
  refine r_iconst hm rfl (k := ?_)
  refine r_iald (hm := hm) (hf := rfl) (hs := (by first | assumption | (rw [g.1]; rfl))) (kk := 3) (hi := by omega) (hn := (by omega)) (hv := (by first | assumption | exact g.2 _ _ _ rfl | exact M0 _ (by omega) | exact M1 _ (by omega) | exact M2 _ (by omega) | exact M3 _ (by omega) | exact M4 _ (by omega) | exact Q0 _ _ (by omega) (by omega) | exact Q1 _ _ (by omega) (by omega) | exact Q2 _ _ (by omega) (by omega) | exact S0 _ (by omega))) (k := ?_)
  refine r_iconst hm rfl (k := ?_)
  refine r_isub hm rfl (hr := (by omega)) (k := ?_)
  refine r_i2l hm rfl (k := ?_)
  refine r_calls (j2 := 162) hm rfl rfl rfl rfl rfl rfl (Nat.le_of_ble_eq_true rfl) (Nat.le_of_ble_eq_true rfl) rfl ⟨Nat.le_of_ble_eq_true rfl, Nat.le_of_ble_eq_true rfl, Nat.le_of_ble_eq_true rfl, Nat.le_of_ble_eq_true rfl, Nat.le_of_ble_eq_true rfl⟩ rfl (m_in (z := i) (a := 0) (b := (x.1 : Int) - 1) (zL_t hi) rfl (zL_t ⟨by omega, by omega⟩)) (fun v9 h9 p9 => ?_)
  obtain ⟨e1, e2⟩ := p9
  subst e2
  subst e1
  change RN 165 15 _ _ _ 0 0 _
  dsimp only [Option.toList, List.cons_append, List.nil_append]
  refine r_ireturn hm rfl rfl (by split <;> rfl) (Nat.le_of_ble_eq_true rfl) (Nat.le_of_ble_eq_true rfl) ?_
  exact ⟨rfl, by by_cases hq : 0 ≤ i ∧ i < (x.1 : Int) <;> first | (rw [if_pos (by omega), if_pos (by assumption)]; done) | (rw [if_neg (by omega), if_neg (by assumption)]; done)⟩
theorem m_meant_l {L : Nat} {h : Hp} {c : Nat} {x : Tx} (g : GG L h) (hc : h.2.1 1085 12 = (c : Int)) (hc3 : c ≤ 3) (hR : RepM h c x) {m r : Int} (hm0 : 0 ≤ m) : ∀ d i, i + d = x.1 → fi (fun k => x.2.1 3 k == m) i d = r → RN 199 2 [some (.inr (.inr (some 1085))), some (.inl m), some (.inl (i : Int))] [] h 0 0 (fun v h2 => h2 = h ∧ v = some (.inl r)) := by
  obtain ⟨M0, M1, M2, M3, M4, Q0, Q1, Q2, S0, N0, N1⟩ := hR.use
  have hm : mrec 199 = some nM199 := rfl
  intro d
  induction d with
  | zero =>
    intro i hi hr
    refine r_iload_n hm rfl (k := ?_)
    refine r_aload_n hm rfl (k := ?_)
    refine r_getR (hm := hm) (hf := rfl) (hd := rfl) (hs := (by first | assumption | (rw [g.1]; rfl))) (hv := (by first | assumption | exact g.2 _ _ _ rfl | exact M0 _ (by omega) | exact M1 _ (by omega) | exact M2 _ (by omega) | exact M3 _ (by omega) | exact M4 _ (by omega) | exact Q0 _ _ (by omega) (by omega) | exact Q1 _ _ (by omega) (by omega) | exact Q2 _ _ (by omega) (by omega) | exact S0 _ (by omega))) (k := ?_)
    refine r_aload_n hm rfl (k := ?_)
    refine r_getI (hm := hm) (hf := rfl) (hd := rfl) (hs := (by first | assumption | (rw [g.1]; rfl))) (hv := (by first | assumption | exact g.2 _ _ _ rfl | exact M0 _ (by omega) | exact M1 _ (by omega) | exact M2 _ (by omega) | exact M3 _ (by omega) | exact M4 _ (by omega) | exact Q0 _ _ (by omega) (by omega) | exact Q1 _ _ (by omega) (by omega) | exact Q2 _ _ (by omega) (by omega) | exact S0 _ (by omega))) (k := ?_)
    refine r_iald (hm := hm) (hf := rfl) (hs := (by first | assumption | (rw [g.1]; rfl))) (kk := c) (hi := by omega) (hn := (by omega)) (hv := (by first | assumption | exact g.2 _ _ _ rfl | exact M0 _ (by omega) | exact M1 _ (by omega) | exact M2 _ (by omega) | exact M3 _ (by omega) | exact M4 _ (by omega) | exact Q0 _ _ (by omega) (by omega) | exact Q1 _ _ (by omega) (by omega) | exact Q2 _ _ (by omega) (by omega) | exact S0 _ (by omega))) (k := ?_)
    refine r_icmp_ge (t := 45) hm rfl rfl (fun c12 => ?_) (fun c12 => ?_)
    · refine r_iconst hm rfl (k := ?_)
      refine r_ireturn hm rfl rfl (by rfl) (Nat.le_of_ble_eq_true rfl) (Nat.le_of_ble_eq_true rfl) ?_
      exact ⟨rfl, by rw [← hr]; rfl⟩
    · exfalso; omega
  | succ d ih =>
    intro i hi hr
    refine r_iload_n hm rfl (k := ?_)
    refine r_aload_n hm rfl (k := ?_)
    refine r_getR (hm := hm) (hf := rfl) (hd := rfl) (hs := (by first | assumption | (rw [g.1]; rfl))) (hv := (by first | assumption | exact g.2 _ _ _ rfl | exact M0 _ (by omega) | exact M1 _ (by omega) | exact M2 _ (by omega) | exact M3 _ (by omega) | exact M4 _ (by omega) | exact Q0 _ _ (by omega) (by omega) | exact Q1 _ _ (by omega) (by omega) | exact Q2 _ _ (by omega) (by omega) | exact S0 _ (by omega))) (k := ?_)
    refine r_aload_n hm rfl (k := ?_)
    refine r_getI (hm := hm) (hf := rfl) (hd := rfl) (hs := (by first | assumption | (rw [g.1]; rfl))) (hv := (by first | assumption | exact g.2 _ _ _ rfl | exact M0 _ (by omega) | exact M1 _ (by omega) | exact M2 _ (by omega) | exact M3 _ (by omega) | exact M4 _ (by omega) | exact Q0 _ _ (by omega) (by omega) | exact Q1 _ _ (by omega) (by omega) | exact Q2 _ _ (by omega) (by omega) | exact S0 _ (by omega))) (k := ?_)
    refine r_iald (hm := hm) (hf := rfl) (hs := (by first | assumption | (rw [g.1]; rfl))) (kk := c) (hi := by omega) (hn := (by omega)) (hv := (by first | assumption | exact g.2 _ _ _ rfl | exact M0 _ (by omega) | exact M1 _ (by omega) | exact M2 _ (by omega) | exact M3 _ (by omega) | exact M4 _ (by omega) | exact Q0 _ _ (by omega) (by omega) | exact Q1 _ _ (by omega) (by omega) | exact Q2 _ _ (by omega) (by omega) | exact S0 _ (by omega))) (k := ?_)
    refine r_icmp_ge (t := 45) hm rfl rfl (fun c12 => ?_) (fun c12 => ?_)
    · exfalso; omega
    · refine r_aload_n hm rfl (k := ?_)
      refine r_getR (hm := hm) (hf := rfl) (hd := rfl) (hs := (by first | assumption | (rw [g.1]; rfl))) (hv := (by first | assumption | exact g.2 _ _ _ rfl | exact M0 _ (by omega) | exact M1 _ (by omega) | exact M2 _ (by omega) | exact M3 _ (by omega) | exact M4 _ (by omega) | exact Q0 _ _ (by omega) (by omega) | exact Q1 _ _ (by omega) (by omega) | exact Q2 _ _ (by omega) (by omega) | exact S0 _ (by omega))) (k := ?_)
      refine r_bipush hm rfl (k := ?_)
      refine r_aload_n hm rfl (k := ?_)
      refine r_getI (hm := hm) (hf := rfl) (hd := rfl) (hs := (by first | assumption | (rw [g.1]; rfl))) (hv := (by first | assumption | exact g.2 _ _ _ rfl | exact M0 _ (by omega) | exact M1 _ (by omega) | exact M2 _ (by omega) | exact M3 _ (by omega) | exact M4 _ (by omega) | exact Q0 _ _ (by omega) (by omega) | exact Q1 _ _ (by omega) (by omega) | exact Q2 _ _ (by omega) (by omega) | exact S0 _ (by omega))) (k := ?_)
      refine r_imul hm rfl (hr := (by omega)) (k := ?_)
      refine r_iload_n hm rfl (k := ?_)
      refine r_iadd hm rfl (hr := (by omega)) (k := ?_)
      refine r_iald (hm := hm) (hf := rfl) (hs := (by first | assumption | (rw [g.1]; rfl))) (kk := 60 * c + i) (hi := by omega) (hn := (by omega)) (hv := (by first | assumption | exact g.2 _ _ _ rfl | exact M0 _ (by omega) | exact M1 _ (by omega) | exact M2 _ (by omega) | exact M3 _ (by omega) | exact M4 _ (by omega) | exact Q0 _ _ (by omega) (by omega) | exact Q1 _ _ (by omega) (by omega) | exact Q2 _ _ (by omega) (by omega) | exact S0 _ (by omega))) (k := ?_)
      refine r_iload_n hm rfl (k := ?_)
      refine r_icmp_ne (t := 39) hm rfl rfl (fun c30 => ?_) (fun c30 => ?_)
      · refine r_iinc hm rfl (hr := (by omega)) (k := ?_)
        refine r_goto (t := 2) hm rfl (k := ?_)
        exact ih (i + 1) (by omega) (by simpa [fi, c30] using hr)
      · refine r_iload_n hm rfl (k := ?_)
        refine r_if_lt (t := 39) hm rfl rfl (fun c34 => ?_) (fun c34 => ?_)
        · exfalso; omega
        · refine r_iload_n hm rfl (k := ?_)
          refine r_ireturn hm rfl rfl (by rfl) (Nat.le_of_ble_eq_true rfl) (Nat.le_of_ble_eq_true rfl) ?_
          exact ⟨rfl, by rw [← hr]; simp [fi, Decidable.not_not.mp c30]⟩
theorem m_meant {L : Nat} {h : Hp} {c : Nat} {x : Tx} (g : GG L h) (hc : h.2.1 1085 12 = (c : Int)) (hc3 : c ≤ 3) (hR : RepM h c x) {m : Int} (hm0 : 0 ≤ m) : RN 199 0 [some (.inr (.inr (some 1085))), some (.inl m), none] [] h 0 0 (fun v h2 => h2 = h ∧ v = some (.inl (fi (fun k => x.2.1 3 k == m) 0 x.1))) := by
  obtain ⟨M0, M1, M2, M3, M4, Q0, Q1, Q2, S0, N0, N1⟩ := hR.use
  have hm : mrec 199 = some nM199 := rfl
  refine r_iconst hm rfl (k := ?_)
  refine r_istore_n hm rfl (k := ?_)
  exact m_meant_l g hc hc3 hR hm0 x.1 0 (by omega) rfl
theorem m_isListed {L : Nat} {h : Hp} {c : Nat} {x : Tx} (g : GG L h) (hc : h.2.1 1085 12 = (c : Int)) (hc3 : c ≤ 3) (hR : RepM h c x) {i q : Nat} (hi : i < x.1) (hq : q < x.1) (hk4 : 4 ≤ x.2.1 1 i ∧ x.2.1 1 i ≤ 6) : RN 195 0 [some (.inr (.inr (some 1085))), some (.inl (i : Int)), some (.inl (q : Int)), none] [] h 0 0 (fun v h2 => h2 = h ∧ v = some (.inl (if lstB x i q = true then 1 else 0))) := by
  obtain ⟨M0, M1, M2, M3, M4, Q0, Q1, Q2, S0, N0, N1⟩ := hR.use
  have hm : mrec 195 = some nM195 := rfl
  refine r_aload_n hm rfl (k := ?_)
  refine r_iload_n hm rfl (k := ?_)
  refine r_callv (j2 := 174) hm rfl rfl rfl rfl rfl rfl (by first | assumption | (rw [g.1]; rfl)) (Nat.le_of_ble_eq_true rfl) (Nat.le_of_ble_eq_true rfl) rfl ⟨Nat.le_of_ble_eq_true rfl, Nat.le_of_ble_eq_true rfl, Nat.le_of_ble_eq_true rfl, Nat.le_of_ble_eq_true rfl, Nat.le_of_ble_eq_true rfl⟩ rfl (m_kind g hc hc3 hR (i := i) (by omega)) (fun v9 h9 p9 => ?_)
  obtain ⟨e1, e2⟩ := p9
  subst e2
  subst e1
  change RN 195 5 _ _ _ 0 0 _
  dsimp only [Option.toList, List.cons_append, List.nil_append]
  refine r_istore_n hm rfl (k := ?_)
  refine r_iload_n hm rfl (k := ?_)
  refine r_iconst hm rfl (k := ?_)
  refine r_icmp_ne (t := 40) hm rfl rfl (fun c8 => ?_) (fun c8 => ?_)
  · refine r_iload_n hm rfl (k := ?_)
    refine r_iconst hm rfl (k := ?_)
    refine r_icmp_ne (t := 62) hm rfl rfl (fun c42 => ?_) (fun c42 => ?_)
    · refine r_aload_n hm rfl (k := ?_)
      refine r_iload_n hm rfl (k := ?_)
      refine r_callv (j2 := 174) hm rfl rfl rfl rfl rfl rfl (by first | assumption | (rw [g.1]; rfl)) (Nat.le_of_ble_eq_true rfl) (Nat.le_of_ble_eq_true rfl) rfl ⟨Nat.le_of_ble_eq_true rfl, Nat.le_of_ble_eq_true rfl, Nat.le_of_ble_eq_true rfl, Nat.le_of_ble_eq_true rfl, Nat.le_of_ble_eq_true rfl⟩ rfl (m_kind g hc hc3 hR (i := q) (by omega)) (fun v9 h9 p9 => ?_)
      obtain ⟨e1, e2⟩ := p9
      subst e2
      subst e1
      change RN 195 67 _ _ _ 0 0 _
      dsimp only [Option.toList, List.cons_append, List.nil_append]
      refine r_iconst hm rfl (k := ?_)
      refine r_icmp_ne (t := 75) hm rfl rfl (fun c68 => ?_) (fun c68 => ?_)
      · refine r_iconst hm rfl (k := ?_)
        refine r_ireturn hm rfl rfl (by first | rfl | decide) (Nat.le_of_ble_eq_true rfl) (Nat.le_of_ble_eq_true rfl) ?_
        exact ⟨rfl, by unfold lstB; first | (rw [if_pos (by rw [decide_eq_true_eq]; omega)]; done) | (rw [if_neg (by rw [decide_eq_true_eq]; omega)]; done)⟩
      · refine r_iconst hm rfl (k := ?_)
        refine r_goto (t := 76) hm rfl (k := ?_)
        refine r_ireturn hm rfl rfl (by first | rfl | decide) (Nat.le_of_ble_eq_true rfl) (Nat.le_of_ble_eq_true rfl) ?_
        exact ⟨rfl, by unfold lstB; first | (rw [if_pos (by rw [decide_eq_true_eq]; omega)]; done) | (rw [if_neg (by rw [decide_eq_true_eq]; omega)]; done)⟩
    · refine r_aload_n hm rfl (k := ?_)
      refine r_iload_n hm rfl (k := ?_)
      refine r_callv (j2 := 174) hm rfl rfl rfl rfl rfl rfl (by first | assumption | (rw [g.1]; rfl)) (Nat.le_of_ble_eq_true rfl) (Nat.le_of_ble_eq_true rfl) rfl ⟨Nat.le_of_ble_eq_true rfl, Nat.le_of_ble_eq_true rfl, Nat.le_of_ble_eq_true rfl, Nat.le_of_ble_eq_true rfl, Nat.le_of_ble_eq_true rfl⟩ rfl (m_kind g hc hc3 hR (i := q) (by omega)) (fun v9 h9 p9 => ?_)
      obtain ⟨e1, e2⟩ := p9
      subst e2
      subst e1
      change RN 195 50 _ _ _ 0 0 _
      dsimp only [Option.toList, List.cons_append, List.nil_append]
      refine r_iconst hm rfl (k := ?_)
      refine r_icmp_ne (t := 58) hm rfl rfl (fun c51 => ?_) (fun c51 => ?_)
      · refine r_iconst hm rfl (k := ?_)
        refine r_goto (t := 76) hm rfl (k := ?_)
        refine r_ireturn hm rfl rfl (by first | rfl | decide) (Nat.le_of_ble_eq_true rfl) (Nat.le_of_ble_eq_true rfl) ?_
        exact ⟨rfl, by unfold lstB; first | (rw [if_pos (by rw [decide_eq_true_eq]; omega)]; done) | (rw [if_neg (by rw [decide_eq_true_eq]; omega)]; done)⟩
      · refine r_iconst hm rfl (k := ?_)
        refine r_goto (t := 76) hm rfl (k := ?_)
        refine r_ireturn hm rfl rfl (by first | rfl | decide) (Nat.le_of_ble_eq_true rfl) (Nat.le_of_ble_eq_true rfl) ?_
        exact ⟨rfl, by unfold lstB; first | (rw [if_pos (by rw [decide_eq_true_eq]; omega)]; done) | (rw [if_neg (by rw [decide_eq_true_eq]; omega)]; done)⟩
  · refine r_aload_n hm rfl (k := ?_)
    refine r_iload_n hm rfl (k := ?_)
    refine r_callv (j2 := 174) hm rfl rfl rfl rfl rfl rfl (by first | assumption | (rw [g.1]; rfl)) (Nat.le_of_ble_eq_true rfl) (Nat.le_of_ble_eq_true rfl) rfl ⟨Nat.le_of_ble_eq_true rfl, Nat.le_of_ble_eq_true rfl, Nat.le_of_ble_eq_true rfl, Nat.le_of_ble_eq_true rfl, Nat.le_of_ble_eq_true rfl⟩ rfl (m_kind g hc hc3 hR (i := q) (by omega)) (fun v9 h9 p9 => ?_)
    obtain ⟨e1, e2⟩ := p9
    subst e2
    subst e1
    change RN 195 16 _ _ _ 0 0 _
    dsimp only [Option.toList, List.cons_append, List.nil_append]
    refine r_if_ne (t := 36) hm rfl rfl (fun c16 => ?_) (fun c16 => ?_)
    · refine r_iconst hm rfl (k := ?_)
      refine r_goto (t := 76) hm rfl (k := ?_)
      refine r_ireturn hm rfl rfl (by first | rfl | decide) (Nat.le_of_ble_eq_true rfl) (Nat.le_of_ble_eq_true rfl) ?_
      exact ⟨rfl, by unfold lstB; first | (rw [if_pos (by rw [decide_eq_true_eq]; omega)]; done) | (rw [if_neg (by rw [decide_eq_true_eq]; omega)]; done)⟩
    · refine r_aload_n hm rfl (k := ?_)
      refine r_iload_n hm rfl (k := ?_)
      refine r_callv (j2 := 175) hm rfl rfl rfl rfl rfl rfl (by first | assumption | (rw [g.1]; rfl)) (Nat.le_of_ble_eq_true rfl) (Nat.le_of_ble_eq_true rfl) rfl ⟨Nat.le_of_ble_eq_true rfl, Nat.le_of_ble_eq_true rfl, Nat.le_of_ble_eq_true rfl, Nat.le_of_ble_eq_true rfl, Nat.le_of_ble_eq_true rfl⟩ rfl (m_a g hc hc3 hR (i := q) (by omega)) (fun v9 h9 p9 => ?_)
      obtain ⟨e1, e2⟩ := p9
      subst e2
      subst e1
      change RN 195 24 _ _ _ 0 0 _
      dsimp only [Option.toList, List.cons_append, List.nil_append]
      refine r_aload_n hm rfl (k := ?_)
      refine r_iload_n hm rfl (k := ?_)
      refine r_callv (j2 := 175) hm rfl rfl rfl rfl rfl rfl (by first | assumption | (rw [g.1]; rfl)) (Nat.le_of_ble_eq_true rfl) (Nat.le_of_ble_eq_true rfl) rfl ⟨Nat.le_of_ble_eq_true rfl, Nat.le_of_ble_eq_true rfl, Nat.le_of_ble_eq_true rfl, Nat.le_of_ble_eq_true rfl, Nat.le_of_ble_eq_true rfl⟩ rfl (m_a g hc hc3 hR (i := i) (by omega)) (fun v9 h9 p9 => ?_)
      obtain ⟨e1, e2⟩ := p9
      subst e2
      subst e1
      change RN 195 29 _ _ _ 0 0 _
      dsimp only [Option.toList, List.cons_append, List.nil_append]
      refine r_icmp_gt (t := 36) hm rfl rfl (fun c29 => ?_) (fun c29 => ?_)
      · refine r_iconst hm rfl (k := ?_)
        refine r_goto (t := 76) hm rfl (k := ?_)
        refine r_ireturn hm rfl rfl (by first | rfl | decide) (Nat.le_of_ble_eq_true rfl) (Nat.le_of_ble_eq_true rfl) ?_
        exact ⟨rfl, by unfold lstB; first | (rw [if_pos (by rw [decide_eq_true_eq]; omega)]; done) | (rw [if_neg (by rw [decide_eq_true_eq]; omega)]; done)⟩
      · refine r_iconst hm rfl (k := ?_)
        refine r_goto (t := 76) hm rfl (k := ?_)
        refine r_ireturn hm rfl rfl (by first | rfl | decide) (Nat.le_of_ble_eq_true rfl) (Nat.le_of_ble_eq_true rfl) ?_
        exact ⟨rfl, by unfold lstB; first | (rw [if_pos (by rw [decide_eq_true_eq]; omega)]; done) | (rw [if_neg (by rw [decide_eq_true_eq]; omega)]; done)⟩
theorem m_listed_l {L : Nat} {h : Hp} {c : Nat} {x : Tx} (g : GG L h) (hc : h.2.1 1085 12 = (c : Int)) (hc3 : c ≤ 3) (hR : RepM h c x) {i : Nat} {r : Int} (hi : i < x.1) (hk4 : 4 ≤ x.2.1 1 i ∧ x.2.1 1 i ≤ 6) : ∀ (d q : Nat) (s : Int), q + d = x.1 → 0 ≤ s ∧ s ≤ q → s + sm (fun q => if lstB x i q = true then 1 else 0) q d = r → RN 194 4 [some (.inr (.inr (some 1085))), some (.inl (i : Int)), some (.inl s), some (.inl (q : Int))] [] h 0 0 (fun v h2 => h2 = h ∧ v = some (.inl r)) := by
  obtain ⟨M0, M1, M2, M3, M4, Q0, Q1, Q2, S0, N0, N1⟩ := hR.use
  have hm : mrec 194 = some nM194 := rfl
  intro d
  induction d with
  | zero =>
    intro q s hq hs hr
    refine r_iload_n hm rfl (k := ?_)
    refine r_aload_n hm rfl (k := ?_)
    refine r_getR (hm := hm) (hf := rfl) (hd := rfl) (hs := (by first | assumption | (rw [g.1]; rfl))) (hv := (by first | assumption | exact g.2 _ _ _ rfl | exact M0 _ (by omega) | exact M1 _ (by omega) | exact M2 _ (by omega) | exact M3 _ (by omega) | exact M4 _ (by omega) | exact Q0 _ _ (by omega) (by omega) | exact Q1 _ _ (by omega) (by omega) | exact Q2 _ _ (by omega) (by omega) | exact S0 _ (by omega))) (k := ?_)
    refine r_aload_n hm rfl (k := ?_)
    refine r_getI (hm := hm) (hf := rfl) (hd := rfl) (hs := (by first | assumption | (rw [g.1]; rfl))) (hv := (by first | assumption | exact g.2 _ _ _ rfl | exact M0 _ (by omega) | exact M1 _ (by omega) | exact M2 _ (by omega) | exact M3 _ (by omega) | exact M4 _ (by omega) | exact Q0 _ _ (by omega) (by omega) | exact Q1 _ _ (by omega) (by omega) | exact Q2 _ _ (by omega) (by omega) | exact S0 _ (by omega))) (k := ?_)
    refine r_iald (hm := hm) (hf := rfl) (hs := (by first | assumption | (rw [g.1]; rfl))) (kk := c) (hi := by omega) (hn := (by omega)) (hv := (by first | assumption | exact g.2 _ _ _ rfl | exact M0 _ (by omega) | exact M1 _ (by omega) | exact M2 _ (by omega) | exact M3 _ (by omega) | exact M4 _ (by omega) | exact Q0 _ _ (by omega) (by omega) | exact Q1 _ _ (by omega) (by omega) | exact Q2 _ _ (by omega) (by omega) | exact S0 _ (by omega))) (k := ?_)
    refine r_icmp_ge (t := 40) hm rfl rfl (fun c14 => ?_) (fun c14 => ?_)
    · refine r_iload_n hm rfl (k := ?_)
      refine r_ireturn hm rfl rfl (by rfl) (Nat.le_of_ble_eq_true rfl) (Nat.le_of_ble_eq_true rfl) ?_
      exact ⟨rfl, by rw [← hr]; simp [sm]⟩
    · exfalso; omega
  | succ d ih =>
    intro q s hq hs hr
    refine r_iload_n hm rfl (k := ?_)
    refine r_aload_n hm rfl (k := ?_)
    refine r_getR (hm := hm) (hf := rfl) (hd := rfl) (hs := (by first | assumption | (rw [g.1]; rfl))) (hv := (by first | assumption | exact g.2 _ _ _ rfl | exact M0 _ (by omega) | exact M1 _ (by omega) | exact M2 _ (by omega) | exact M3 _ (by omega) | exact M4 _ (by omega) | exact Q0 _ _ (by omega) (by omega) | exact Q1 _ _ (by omega) (by omega) | exact Q2 _ _ (by omega) (by omega) | exact S0 _ (by omega))) (k := ?_)
    refine r_aload_n hm rfl (k := ?_)
    refine r_getI (hm := hm) (hf := rfl) (hd := rfl) (hs := (by first | assumption | (rw [g.1]; rfl))) (hv := (by first | assumption | exact g.2 _ _ _ rfl | exact M0 _ (by omega) | exact M1 _ (by omega) | exact M2 _ (by omega) | exact M3 _ (by omega) | exact M4 _ (by omega) | exact Q0 _ _ (by omega) (by omega) | exact Q1 _ _ (by omega) (by omega) | exact Q2 _ _ (by omega) (by omega) | exact S0 _ (by omega))) (k := ?_)
    refine r_iald (hm := hm) (hf := rfl) (hs := (by first | assumption | (rw [g.1]; rfl))) (kk := c) (hi := by omega) (hn := (by omega)) (hv := (by first | assumption | exact g.2 _ _ _ rfl | exact M0 _ (by omega) | exact M1 _ (by omega) | exact M2 _ (by omega) | exact M3 _ (by omega) | exact M4 _ (by omega) | exact Q0 _ _ (by omega) (by omega) | exact Q1 _ _ (by omega) (by omega) | exact Q2 _ _ (by omega) (by omega) | exact S0 _ (by omega))) (k := ?_)
    refine r_icmp_ge (t := 40) hm rfl rfl (fun c14 => ?_) (fun c14 => ?_)
    · exfalso; omega
    · refine r_iload_n hm rfl (k := ?_)
      refine r_aload_n hm rfl (k := ?_)
      refine r_iload_n hm rfl (k := ?_)
      refine r_iload_n hm rfl (k := ?_)
      refine r_callv (j2 := 195) hm rfl rfl rfl rfl rfl rfl (by first | assumption | (rw [g.1]; rfl)) (Nat.le_of_ble_eq_true rfl) (Nat.le_of_ble_eq_true rfl) rfl ⟨Nat.le_of_ble_eq_true rfl, Nat.le_of_ble_eq_true rfl, Nat.le_of_ble_eq_true rfl, Nat.le_of_ble_eq_true rfl, Nat.le_of_ble_eq_true rfl⟩ rfl (m_isListed g hc hc3 hR hi (by omega) hk4) (fun v9 h9 p9 => ?_)
      obtain ⟨e1, e2⟩ := p9
      subst e2
      subst e1
      change RN 194 24 _ _ _ 0 0 _
      dsimp only [Option.toList, List.cons_append, List.nil_append]
      refine r_if_eq (t := 31) hm rfl rfl (fun c24 => ?_) (fun c24 => ?_)
      · refine r_iconst hm rfl (k := ?_)
        refine r_iadd hm rfl (hr := (by omega)) (k := ?_)
        refine r_istore_n hm rfl (k := ?_)
        refine r_iinc hm rfl (hr := (by omega)) (k := ?_)
        refine r_goto (t := 4) hm rfl (k := ?_)
        exact ih (q + 1) _ (by omega) (by omega) (by rw [← hr]; simp only [sm]; by_cases hp : lstB x i q = true <;> simp [hp] at c24 ⊢ <;> omega)
      · refine r_iconst hm rfl (k := ?_)
        refine r_goto (t := 32) hm rfl (k := ?_)
        refine r_iadd hm rfl (hr := (by omega)) (k := ?_)
        refine r_istore_n hm rfl (k := ?_)
        refine r_iinc hm rfl (hr := (by omega)) (k := ?_)
        refine r_goto (t := 4) hm rfl (k := ?_)
        exact ih (q + 1) _ (by omega) (by omega) (by rw [← hr]; simp only [sm]; by_cases hp : lstB x i q = true <;> simp [hp] at c24 ⊢ <;> omega)
theorem m_listed {L : Nat} {h : Hp} {c : Nat} {x : Tx} (g : GG L h) (hc : h.2.1 1085 12 = (c : Int)) (hc3 : c ≤ 3) (hR : RepM h c x) {i : Nat} (hi : i < x.1) (hk4 : 4 ≤ x.2.1 1 i ∧ x.2.1 1 i ≤ 6) : RN 194 0 [some (.inr (.inr (some 1085))), some (.inl (i : Int)), none, none] [] h 0 0 (fun v h2 => h2 = h ∧ v = some (.inl (sm (fun q => if lstB x i q = true then 1 else 0) 0 x.1))) := by
  obtain ⟨M0, M1, M2, M3, M4, Q0, Q1, Q2, S0, N0, N1⟩ := hR.use
  have hm : mrec 194 = some nM194 := rfl
  refine r_iconst hm rfl (k := ?_)
  refine r_istore_n hm rfl (k := ?_)
  refine r_iconst hm rfl (k := ?_)
  refine r_istore_n hm rfl (k := ?_)
  exact m_listed_l g hc hc3 hR hi hk4 x.1 0 0 (by omega) (by omega) (by omega)
