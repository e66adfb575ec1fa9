/-! the reference: what the pieces say -/
/-- the row at b, from o on, holds F for the pieces of items below i, and of item i below k -/
def PmK (h : Hp) (b o : Nat) (x : Tx) (F : LT) (i k : Nat) : Prop := (∀ q k2, q < i → k2 < pcs x q → h.2.1 b (o + 20 * q + k2) = F q k2) ∧ ∀ k2, k2 < k → h.2.1 b (o + 20 * i + k2) = F i k2
theorem PmK.at {h : Hp} {b o j : Nat} {x : Tx} {F : LT} {i k : Nat} {v : Int} (hok : okTx x) (hi : i < x.1) (p : PmK h b o x F i k) (hj : j = o + 20 * i + k) : PmK (putI h b j v) b o x F i k := by
  refine ⟨fun q k2 hq hk => ?_, fun k2 hk => ?_⟩
  · have := pcs_eq hok (i := q) (by omega)
    rw [putI_ne (by omega)]; exact p.1 q k2 hq hk
  · rw [putI_ne (by omega)]; exact p.2 k2 hk
theorem PmK.put {h : Hp} {b o j : Nat} {x : Tx} {F : LT} {i k : Nat} {v : Int} (hok : okTx x) (hi : i < x.1) (p : PmK h b o x F i k) (hj : j = o + 20 * i + k) (e : v = F i k) : PmK (putI h b j v) b o x F i (k + 1) := by
  refine ⟨(p.at hok hi hj).1, fun k2 hk => ?_⟩
  by_cases e2 : k2 = k
  · rw [e2, ← hj, putI_eq, e]
  · exact (p.at hok hi hj).2 k2 (by omega)
theorem PmK.same {S : Nat → Nat → Prop} {h h2 : Hp} {b o : Nat} {x : Tx} {F : LT} {i k : Nat} (p : PmK h b o x F i k) (m : Sm S h h2) (hS : ∀ a k, S a k → a ≠ b) : PmK h2 b o x F i k := by
  refine ⟨fun q k2 hq hk => ?_, fun k2 hk => ?_⟩
  · rw [m.2.2 _ _ (fun z => hS _ _ z rfl)]; exact p.1 q k2 hq hk
  · rw [m.2.2 _ _ (fun z => hS _ _ z rfl)]; exact p.2 k2 hk
theorem PmK.ne {h : Hp} {a b o j : Nat} {x : Tx} {F : LT} {i k : Nat} {v : Int} (p : PmK h b o x F i k) (e : b ≠ a) : PmK (putI h a j v) b o x F i k := p.same (Sm.put (S := fun a2 _ => a2 = a) Sm.refl rfl) (fun a2 _ z => by omega)
theorem PmK.next {h : Hp} {b o : Nat} {x : Tx} {F : LT} {i : Nat} (p : PmK h b o x F i (pcs x i)) : PmK h b o x F (i + 1) 0 := by
  refine ⟨fun q k2 hq hk => ?_, fun k2 hk => absurd hk (Nat.not_lt_zero _)⟩
  by_cases e : q = i
  · subst e; exact p.2 k2 hk
  · exact p.1 q k2 (by omega) hk
theorem PmK.nil {h : Hp} {b o : Nat} {x : Tx} {F : LT} : PmK h b o x F 0 0 := ⟨fun q k2 hq => absurd hq (Nat.not_lt_zero _), fun k2 hk => absurd hk (Nat.not_lt_zero _)⟩
theorem PmK.zero {h : Hp} {b : Nat} {x : Tx} {F : LT} {i q k : Nat} (p : PmK h b 0 x F i 0) (hq : q < i) (hk : k < pcs x q) : h.2.1 b (20 * q + k) = F q k := by
  have := p.1 q k hq hk
  rw [Nat.zero_add] at this
  exact this
set_option maxRecDepth 8000 in
theorem m_saidCall {L : Nat} {h : Hp} {c : Nat} {x : Tx} (g : GG L h) (hc : h.2.1 1085 12 = (c : Int)) (hc3 : c ≤ 3) (hR : RepM h c x) {sd fq : Nat → Int} {i k : Nat} {pc : Int} (hok : okTx x) (hi : i < x.1) (hk : k < pcs x i) (hk1 : x.2.2.1 0 i k = 1) (hSd : ∀ q, q < x.1 → h.2.1 1101 q = sd q) (hFq : ∀ q, q < x.1 → h.2.1 1107 q = fq q) (hFr : ∀ q, q < x.1 → 1 ≤ fq q ∧ fq q ≤ 1250) (hpp : h.2.1 1105 (20 * i + k) = pc) (hpc : 0 ≤ pc ∧ pc ≤ 1250) : RN 198 0 [some (.inr (.inr (some 1085))), some (.inl (i : Int)), some (.inl (k : Int)), none, none, none] [] h 0 0 (fun v h2 => h2 = h ∧ v = some (.inl (scl sd fq (mnt x i k) (x.2.2.1 2 i k) pc))) := by
  have hm : mrec 198 = some nM198 := rfl
  obtain ⟨M0, M1, M2, M3, M4, Q0, Q1, Q2, S0, N0, N1⟩ := hR.use
  have n60 := hok.1
  obtain ⟨ep, ep2⟩ := pcs_eq hok hi
  have hz := hok.2.2.1 i k hi (by omega)
  unfold okPc at hz
  have emt : fi (fun q => x.2.1 3 q == x.2.2.1 1 i k) 0 x.1 = mnt x i k := (if_pos hk1).symm
  have hmr := @mnt_rng x i k
  have qM := m_meant g hc hc3 hR (m := x.2.2.1 1 i k) (by omega)
  rw [emt] at qM
  have g1 := g
  have hc1 := hc
  have hR1 := hR
  refine r_aload_n hm rfl (k := ?_)
  refine r_aload_n hm rfl (k := ?_)
  refine r_getR (hm := hm) (hf := rfl) (hd := rfl) (hs := (by first | assumption | exact (g1.1 _).trans rfl)) (hv := (by first | assumption | exact g1.2 _ _ _ rfl | exact Q0 _ _ (by omega) (by omega) | exact Q1 _ _ (by omega) (by omega) | exact Q2 _ _ (by omega) (by omega) | exact hsd | exact hfq | exact hpp)) (k := ?_)
  refine r_aload_n hm rfl (k := ?_)
  refine r_iload_n hm rfl (k := ?_)
  refine r_iload_n hm rfl (k := ?_)
  refine r_callv (j2 := 186) hm rfl rfl rfl rfl rfl rfl (by first | assumption | exact (g1.1 _).trans rfl) (Nat.le_of_ble_eq_true rfl) (Nat.le_of_ble_eq_true rfl) rfl ⟨Nat.le_of_ble_eq_true rfl, Nat.le_of_ble_eq_true rfl, Nat.le_of_ble_eq_true rfl, Nat.le_of_ble_eq_true rfl, Nat.le_of_ble_eq_true rfl⟩ rfl (m_place g1 hc1 hc3 hR1 (i := i) (k := k) (by omega) (by omega)) (fun v9 h9 p9 => ?_)
  obtain ⟨e1, e2⟩ := p9
  subst e2
  replace e1 := e1.symm
  subst e1
  change RN 198 11 _ _ _ 0 0 _
  dsimp only [Option.toList, List.cons_append, List.nil_append]
  refine r_iald (hm := hm) (hf := rfl) (hs := (by first | assumption | exact (g1.1 _).trans rfl)) (hi := rfl) (hn := (by omega)) (hv := (by first | assumption | exact g1.2 _ _ _ rfl | exact Q0 _ _ (by omega) (by omega) | exact Q1 _ _ (by omega) (by omega) | exact Q2 _ _ (by omega) (by omega) | exact hsd | exact hfq | exact hpp)) (k := ?_)
  refine r_callv (j2 := 199) hm rfl rfl rfl rfl rfl rfl (by first | assumption | exact (g1.1 _).trans rfl) (Nat.le_of_ble_eq_true rfl) (Nat.le_of_ble_eq_true rfl) rfl ⟨Nat.le_of_ble_eq_true rfl, Nat.le_of_ble_eq_true rfl, Nat.le_of_ble_eq_true rfl, Nat.le_of_ble_eq_true rfl, Nat.le_of_ble_eq_true rfl⟩ rfl (qM) (fun v9 h9 p9 => ?_)
  obtain ⟨e1, e2⟩ := p9
  subst e2
  replace e1 := e1.symm
  subst e1
  change RN 198 15 _ _ _ 0 0 _
  dsimp only [Option.toList, List.cons_append, List.nil_append]
  refine r_istore_n hm rfl (k := ?_)
  refine r_iload_n hm rfl (k := ?_)
  refine r_if_ge (t := 22) hm rfl rfl (fun c17 => ?_) (fun c17 => ?_)
  · have hsd := hSd (mnt x i k).toNat (by omega)
    have hfq := hFq (mnt x i k).toNat (by omega)
    have hfr := hFr (mnt x i k).toNat (by omega)
    refine r_aload_n hm rfl (k := ?_)
    refine r_getR (hm := hm) (hf := rfl) (hd := rfl) (hs := (by first | assumption | exact (g1.1 _).trans rfl)) (hv := (by first | assumption | exact g1.2 _ _ _ rfl | exact Q0 _ _ (by omega) (by omega) | exact Q1 _ _ (by omega) (by omega) | exact Q2 _ _ (by omega) (by omega) | exact hsd | exact hfq | exact hpp)) (k := ?_)
    refine r_aload_n hm rfl (k := ?_)
    refine r_iload_n hm rfl (k := ?_)
    refine r_iload_n hm rfl (k := ?_)
    refine r_callv (j2 := 186) hm rfl rfl rfl rfl rfl rfl (by first | assumption | exact (g1.1 _).trans rfl) (Nat.le_of_ble_eq_true rfl) (Nat.le_of_ble_eq_true rfl) rfl ⟨Nat.le_of_ble_eq_true rfl, Nat.le_of_ble_eq_true rfl, Nat.le_of_ble_eq_true rfl, Nat.le_of_ble_eq_true rfl, Nat.le_of_ble_eq_true rfl⟩ rfl (m_place g1 hc1 hc3 hR1 (i := i) (k := k) (by omega) (by omega)) (fun v9 h9 p9 => ?_)
    obtain ⟨e1, e2⟩ := p9
    subst e2
    replace e1 := e1.symm
    subst e1
    change RN 198 32 _ _ _ 0 0 _
    dsimp only [Option.toList, List.cons_append, List.nil_append]
    refine r_iald (hm := hm) (hf := rfl) (hs := (by first | assumption | exact (g1.1 _).trans rfl)) (hi := rfl) (hn := (by omega)) (hv := (by first | assumption | exact g1.2 _ _ _ rfl | exact Q0 _ _ (by omega) (by omega) | exact Q1 _ _ (by omega) (by omega) | exact Q2 _ _ (by omega) (by omega) | exact hsd | exact hfq | exact hpp)) (k := ?_)
    refine r_istore hm rfl (k := ?_)
    refine r_aload_n hm rfl (k := ?_)
    refine r_getR (hm := hm) (hf := rfl) (hd := rfl) (hs := (by first | assumption | exact (g1.1 _).trans rfl)) (hv := (by first | assumption | exact g1.2 _ _ _ rfl | exact Q0 _ _ (by omega) (by omega) | exact Q1 _ _ (by omega) (by omega) | exact Q2 _ _ (by omega) (by omega) | exact hsd | exact hfq | exact hpp)) (k := ?_)
    refine r_iload_n hm rfl (k := ?_)
    refine r_iald (hm := hm) (hf := rfl) (hs := (by first | assumption | exact (g1.1 _).trans rfl)) (kk := (mnt x i k).toNat) (hi := by omega) (hn := (by omega)) (hv := (by first | assumption | exact g1.2 _ _ _ rfl | exact Q0 _ _ (by omega) (by omega) | exact Q1 _ _ (by omega) (by omega) | exact Q2 _ _ (by omega) (by omega) | exact hsd | exact hfq | exact hpp)) (k := ?_)
    refine r_aload_n hm rfl (k := ?_)
    refine r_getR (hm := hm) (hf := rfl) (hd := rfl) (hs := (by first | assumption | exact (g1.1 _).trans rfl)) (hv := (by first | assumption | exact g1.2 _ _ _ rfl | exact Q0 _ _ (by omega) (by omega) | exact Q1 _ _ (by omega) (by omega) | exact Q2 _ _ (by omega) (by omega) | exact hsd | exact hfq | exact hpp)) (k := ?_)
    refine r_bipush hm rfl (k := ?_)
    refine r_iload_n hm rfl (k := ?_)
    refine r_imul hm rfl (hr := (by omega)) (k := ?_)
    refine r_iload_n hm rfl (k := ?_)
    refine r_iadd hm rfl (hr := (by omega)) (k := ?_)
    refine r_iald (hm := hm) (hf := rfl) (hs := (by first | assumption | exact (g1.1 _).trans rfl)) (kk := 20 * i + k) (hi := by omega) (hn := (by omega)) (hv := (by first | assumption | exact g1.2 _ _ _ rfl | exact Q0 _ _ (by omega) (by omega) | exact Q1 _ _ (by omega) (by omega) | exact Q2 _ _ (by omega) (by omega) | exact hsd | exact hfq | exact hpp)) (k := ?_)
    refine r_isub hm rfl (hr := (by omega)) (k := ?_)
    refine r_istore hm rfl (k := ?_)
    refine r_iload hm rfl (k := ?_)
    refine r_if_ne (t := 69) hm rfl rfl (fun c57 => ?_) (fun c57 => ?_)
    · refine r_iload hm rfl (k := ?_)
      refine r_iconst hm rfl (k := ?_)
      refine r_icmp_ne (t := 89) hm rfl rfl (fun c72 => ?_) (fun c72 => ?_)
      · refine r_iload hm rfl (k := ?_)
        refine r_if_ne (t := 98) hm rfl rfl (fun c91 => ?_) (fun c91 => ?_)
        · refine r_iload hm rfl (k := ?_)
          refine r_iconst hm rfl (k := ?_)
          refine r_icmp_eq (t := 110) hm rfl rfl (fun c101 => ?_) (fun c101 => ?_)
          · refine r_bipush hm rfl (k := ?_)
            refine r_goto (t := 116) hm rfl (k := ?_)
            refine r_ireturn hm rfl rfl (by rfl) (Nat.le_of_ble_eq_true rfl) (Nat.le_of_ble_eq_true rfl) ?_
            refine ⟨rfl, ?_⟩
            unfold scl
            first
              | (rw [if_pos (by omega)]; done)
              | (rw [if_neg (by omega), if_pos (by omega)]; done)
              | (rw [if_neg (by omega), if_neg (by omega), if_pos (by omega)]; done)
              | (rw [if_neg (by omega), if_neg (by omega), if_neg (by omega), if_pos (by omega)]; done)
              | (rw [if_neg (by omega), if_neg (by omega), if_neg (by omega), if_neg (by omega), if_pos (by omega)]; done)
              | (rw [if_neg (by omega), if_neg (by omega), if_neg (by omega), if_neg (by omega), if_neg (by omega)]; done)
          · refine r_iload hm rfl (k := ?_)
            refine r_iconst hm rfl (k := ?_)
            refine r_icmp_ne (t := 115) hm rfl rfl (fun c107 => ?_) (fun c107 => ?_)
            · refine r_iconst hm rfl (k := ?_)
              refine r_ireturn hm rfl rfl (by rfl) (Nat.le_of_ble_eq_true rfl) (Nat.le_of_ble_eq_true rfl) ?_
              refine ⟨rfl, ?_⟩
              unfold scl
              first
                | (rw [if_pos (by omega)]; done)
                | (rw [if_neg (by omega), if_pos (by omega)]; done)
                | (rw [if_neg (by omega), if_neg (by omega), if_pos (by omega)]; done)
                | (rw [if_neg (by omega), if_neg (by omega), if_neg (by omega), if_pos (by omega)]; done)
                | (rw [if_neg (by omega), if_neg (by omega), if_neg (by omega), if_neg (by omega), if_pos (by omega)]; done)
                | (rw [if_neg (by omega), if_neg (by omega), if_neg (by omega), if_neg (by omega), if_neg (by omega)]; done)
            · refine r_bipush hm rfl (k := ?_)
              refine r_goto (t := 116) hm rfl (k := ?_)
              refine r_ireturn hm rfl rfl (by rfl) (Nat.le_of_ble_eq_true rfl) (Nat.le_of_ble_eq_true rfl) ?_
              refine ⟨rfl, ?_⟩
              unfold scl
              first
                | (rw [if_pos (by omega)]; done)
                | (rw [if_neg (by omega), if_pos (by omega)]; done)
                | (rw [if_neg (by omega), if_neg (by omega), if_pos (by omega)]; done)
                | (rw [if_neg (by omega), if_neg (by omega), if_neg (by omega), if_pos (by omega)]; done)
                | (rw [if_neg (by omega), if_neg (by omega), if_neg (by omega), if_neg (by omega), if_pos (by omega)]; done)
                | (rw [if_neg (by omega), if_neg (by omega), if_neg (by omega), if_neg (by omega), if_neg (by omega)]; done)
        · refine r_iconst hm rfl (k := ?_)
          refine r_goto (t := 116) hm rfl (k := ?_)
          refine r_ireturn hm rfl rfl (by rfl) (Nat.le_of_ble_eq_true rfl) (Nat.le_of_ble_eq_true rfl) ?_
          refine ⟨rfl, ?_⟩
          unfold scl
          first
            | (rw [if_pos (by omega)]; done)
            | (rw [if_neg (by omega), if_pos (by omega)]; done)
            | (rw [if_neg (by omega), if_neg (by omega), if_pos (by omega)]; done)
            | (rw [if_neg (by omega), if_neg (by omega), if_neg (by omega), if_pos (by omega)]; done)
            | (rw [if_neg (by omega), if_neg (by omega), if_neg (by omega), if_neg (by omega), if_pos (by omega)]; done)
            | (rw [if_neg (by omega), if_neg (by omega), if_neg (by omega), if_neg (by omega), if_neg (by omega)]; done)
      · refine r_aload_n hm rfl (k := ?_)
        refine r_getR (hm := hm) (hf := rfl) (hd := rfl) (hs := (by first | assumption | exact (g1.1 _).trans rfl)) (hv := (by first | assumption | exact g1.2 _ _ _ rfl | exact Q0 _ _ (by omega) (by omega) | exact Q1 _ _ (by omega) (by omega) | exact Q2 _ _ (by omega) (by omega) | exact hsd | exact hfq | exact hpp)) (k := ?_)
        refine r_iload_n hm rfl (k := ?_)
        refine r_iald (hm := hm) (hf := rfl) (hs := (by first | assumption | exact (g1.1 _).trans rfl)) (kk := (mnt x i k).toNat) (hi := by omega) (hn := (by omega)) (hv := (by first | assumption | exact g1.2 _ _ _ rfl | exact Q0 _ _ (by omega) (by omega) | exact Q1 _ _ (by omega) (by omega) | exact Q2 _ _ (by omega) (by omega) | exact hsd | exact hfq | exact hpp)) (k := ?_)
        refine r_calls (j2 := 179) hm rfl rfl rfl rfl rfl rfl (Nat.le_of_ble_eq_true rfl) (Nat.le_of_ble_eq_true rfl) rfl ⟨Nat.le_of_ble_eq_true rfl, Nat.le_of_ble_eq_true rfl, Nat.le_of_ble_eq_true rfl, Nat.le_of_ble_eq_true rfl, Nat.le_of_ble_eq_true rfl⟩ rfl (m_figures (by omega) (by omega)) (fun v9 h9 p9 => ?_)
        obtain ⟨e1, e2⟩ := p9
        subst e2
        replace e1 := e1.symm
        subst e1
        have hfg := fgs_rng (fq (mnt x i k).toNat)
        change RN 198 84 _ _ _ 0 0 _
        dsimp only [Option.toList, List.cons_append, List.nil_append]
        refine r_iconst hm rfl (k := ?_)
        refine r_iadd hm rfl (hr := (by omega)) (k := ?_)
        refine r_goto (t := 116) hm rfl (k := ?_)
        refine r_ireturn hm rfl rfl (by rfl) (Nat.le_of_ble_eq_true rfl) (Nat.le_of_ble_eq_true rfl) ?_
        refine ⟨rfl, ?_⟩
        unfold scl
        first
          | (rw [if_pos (by omega)]; done)
          | (rw [if_neg (by omega), if_pos (by omega)]; done)
          | (rw [if_neg (by omega), if_neg (by omega), if_pos (by omega)]; done)
          | (rw [if_neg (by omega), if_neg (by omega), if_neg (by omega), if_pos (by omega)]; done)
          | (rw [if_neg (by omega), if_neg (by omega), if_neg (by omega), if_neg (by omega), if_pos (by omega)]; done)
          | (rw [if_neg (by omega), if_neg (by omega), if_neg (by omega), if_neg (by omega), if_neg (by omega)]; done)
    · refine r_aload_n hm rfl (k := ?_)
      refine r_getR (hm := hm) (hf := rfl) (hd := rfl) (hs := (by first | assumption | exact (g1.1 _).trans rfl)) (hv := (by first | assumption | exact g1.2 _ _ _ rfl | exact Q0 _ _ (by omega) (by omega) | exact Q1 _ _ (by omega) (by omega) | exact Q2 _ _ (by omega) (by omega) | exact hsd | exact hfq | exact hpp)) (k := ?_)
      refine r_iload_n hm rfl (k := ?_)
      refine r_iald (hm := hm) (hf := rfl) (hs := (by first | assumption | exact (g1.1 _).trans rfl)) (kk := (mnt x i k).toNat) (hi := by omega) (hn := (by omega)) (hv := (by first | assumption | exact g1.2 _ _ _ rfl | exact Q0 _ _ (by omega) (by omega) | exact Q1 _ _ (by omega) (by omega) | exact Q2 _ _ (by omega) (by omega) | exact hsd | exact hfq | exact hpp)) (k := ?_)
      refine r_goto (t := 116) hm rfl (k := ?_)
      refine r_ireturn hm rfl rfl (by rfl) (Nat.le_of_ble_eq_true rfl) (Nat.le_of_ble_eq_true rfl) ?_
      refine ⟨rfl, ?_⟩
      unfold scl
      first
        | (rw [if_pos (by omega)]; done)
        | (rw [if_neg (by omega), if_pos (by omega)]; done)
        | (rw [if_neg (by omega), if_neg (by omega), if_pos (by omega)]; done)
        | (rw [if_neg (by omega), if_neg (by omega), if_neg (by omega), if_pos (by omega)]; done)
        | (rw [if_neg (by omega), if_neg (by omega), if_neg (by omega), if_neg (by omega), if_pos (by omega)]; done)
        | (rw [if_neg (by omega), if_neg (by omega), if_neg (by omega), if_neg (by omega), if_neg (by omega)]; done)
  · refine r_iconst hm rfl (k := ?_)
    refine r_ireturn hm rfl rfl (by rfl) (Nat.le_of_ble_eq_true rfl) (Nat.le_of_ble_eq_true rfl) ?_
    refine ⟨rfl, ?_⟩
    unfold scl
    first
      | (rw [if_pos (by omega)]; done)
      | (rw [if_neg (by omega), if_pos (by omega)]; done)
      | (rw [if_neg (by omega), if_neg (by omega), if_pos (by omega)]; done)
      | (rw [if_neg (by omega), if_neg (by omega), if_neg (by omega), if_pos (by omega)]; done)
      | (rw [if_neg (by omega), if_neg (by omega), if_neg (by omega), if_neg (by omega), if_pos (by omega)]; done)
      | (rw [if_neg (by omega), if_neg (by omega), if_neg (by omega), if_neg (by omega), if_neg (by omega)]; done)
set_option maxRecDepth 8000 in
theorem m_countNotes {L : Nat} {h : Hp} {c : Nat} {x : Tx} (g : GG L h) (hc : h.2.1 1085 12 = (c : Int)) (hc3 : c ≤ 3) (hR : RepM h c x) {pp : Nat → Nat → Int} (hok : okTx x) (hpp : ∀ q k, q < x.1 → k < pcs x q → h.2.1 1105 (20 * q + k) = pp q k) (hp1 : ∀ q k, q < x.1 → k < pcs x q → 1 ≤ pp q k) : RN 197 0 [some (.inr (.inr (some 1085))), none, none, none, none, none] [] h 0 0 (fun v h2 => Sm (fun a _ => a = 1106) h h2 ∧ PmK h2 1106 0 x (nct x pp) x.1 0 ∧ v = none) := by
  have hm : mrec 197 = some nM197 := rfl
  have n60 := hok.1
  refine r_iconst hm rfl (k := ?_)
  refine r_istore_n hm rfl (k := ?_)
  refine r_iconst hm rfl (k := ?_)
  refine r_istore_n hm rfl (k := ?_)
  refine r_iconst hm rfl (k := ?_)
  refine r_istore_n hm rfl (k := ?_)
  suffices LP : ∀ (d i : Nat) (h1 : Hp) (n on : Int) (z4 z5 : Option Vl), i + d = x.1 → Sm (fun a _ => a = 1106) h h1 → ntA x pp i = (n, on) → PmK h1 1106 0 x (nct x pp) i 0 → RN 197 6 [some (.inr (.inr (some 1085))), some (.inl n), some (.inl on), some (.inl (i : Int)), z4, z5] [] h1 0 0 (fun v h2 => Sm (fun a _ => a = 1106) h h2 ∧ PmK h2 1106 0 x (nct x pp) x.1 0 ∧ v = none) from LP x.1 0 _ 0 0 _ _ (by omega) Sm.refl rfl PmK.nil
  refine fun d => Nat.strongRecOn d (fun d ih => ?_)
  intro i h1 n on z4 z5 hd S1 hA pN
  have g1 := S1.gg g
  have hc1 := (S1.2.2 1085 12 (by omega)).trans hc
  have hR1 := S1.repM (fun a k q9 => by omega) hR
  obtain ⟨M0, M1, M2, M3, M4, Q0, Q1, Q2, S0, N0, N1⟩ := hR1.use
  have eP := fun q k hq hk => (S1.2.2 1105 (20 * q + k) (by omega)).trans (hpp q k hq hk)
  refine r_iload_n hm rfl (k := ?_)
  refine r_aload_n hm rfl (k := ?_)
  refine r_getR (hm := hm) (hf := rfl) (hd := rfl) (hs := (by first | assumption | exact (g1.1 _).trans rfl)) (hv := (by first | assumption | exact g1.2 _ _ _ rfl | exact Q0 _ _ (by omega) (by omega) | exact Q1 _ _ (by omega) (by omega) | exact Q2 _ _ (by omega) (by omega) | exact eP _ _ (by omega) (by omega))) (k := ?_)
  refine r_aload_n hm rfl (k := ?_)
  refine r_getI (hm := hm) (hf := rfl) (hd := rfl) (hs := (by first | assumption | exact (g1.1 _).trans rfl)) (hv := (by first | assumption | exact g1.2 _ _ _ rfl | exact Q0 _ _ (by omega) (by omega) | exact Q1 _ _ (by omega) (by omega) | exact Q2 _ _ (by omega) (by omega) | exact eP _ _ (by omega) (by omega))) (k := ?_)
  refine r_iald (hm := hm) (hf := rfl) (hs := (by first | assumption | exact (g1.1 _).trans rfl)) (kk := c) (hi := by omega) (hn := (by omega)) (hv := (by first | assumption | exact g1.2 _ _ _ rfl | exact Q0 _ _ (by omega) (by omega) | exact Q1 _ _ (by omega) (by omega) | exact Q2 _ _ (by omega) (by omega) | exact eP _ _ (by omega) (by omega))) (k := ?_)
  refine r_icmp_ge (t := 122) hm rfl rfl (fun c16 => ?_) (fun c16 => ?_)
  · refine r_return hm rfl rfl (Nat.le_of_ble_eq_true rfl) (Nat.le_of_ble_eq_true rfl) ?_
    have ei : i = x.1 := by omega
    subst ei
    exact ⟨S1, pN, rfl⟩
  · have hi2 : i < x.1 := by omega
    obtain ⟨ep, ep2⟩ := pcs_eq hok hi2
    refine r_iconst hm rfl (k := ?_)
    refine r_istore hm rfl (k := ?_)
    suffices LP : ∀ (d2 k : Nat) (h1 : Hp) (n on : Int) (z5 : Option Vl), k + d2 = pcs x i → Sm (fun a _ => a = 1106) h h1 → ntK x pp i k = (n, on) → PmK h1 1106 0 x (nct x pp) i k → RN 197 22 [some (.inr (.inr (some 1085))), some (.inl n), some (.inl on), some (.inl (i : Int)), some (.inl (k : Int)), z5] [] h1 0 0 (fun v h2 => Sm (fun a _ => a = 1106) h h2 ∧ PmK h2 1106 0 x (nct x pp) x.1 0 ∧ v = none) from LP (pcs x i) 0 _ _ _ _ (by omega) S1 hA pN
    refine fun d2 => Nat.strongRecOn d2 (fun d2 ih2 => ?_)
    intro k h1 n on z5 hd2 S1 hA pN
    have g1 := S1.gg g
    have hc1 := (S1.2.2 1085 12 (by omega)).trans hc
    have hR1 := S1.repM (fun a k q9 => by omega) hR
    obtain ⟨M0, M1, M2, M3, M4, Q0, Q1, Q2, S0, N0, N1⟩ := hR1.use
    have eP := fun q k hq hk => (S1.2.2 1105 (20 * q + k) (by omega)).trans (hpp q k hq hk)
    refine r_iload hm rfl (k := ?_)
    refine r_aload_n hm rfl (k := ?_)
    refine r_iload_n hm rfl (k := ?_)
    refine r_callv (j2 := 181) hm rfl rfl rfl rfl rfl rfl (by first | assumption | exact (g1.1 _).trans rfl) (Nat.le_of_ble_eq_true rfl) (Nat.le_of_ble_eq_true rfl) rfl ⟨Nat.le_of_ble_eq_true rfl, Nat.le_of_ble_eq_true rfl, Nat.le_of_ble_eq_true rfl, Nat.le_of_ble_eq_true rfl, Nat.le_of_ble_eq_true rfl⟩ rfl (m_piecesOf g1 hc1 hc3 hR1 (i := i) (by omega)) (fun v9 h9 p9 => ?_)
    obtain ⟨e1, e2⟩ := p9
    subst e2
    replace e1 := e1.symm
    subst e1
    change RN 197 29 _ _ _ 0 0 _
    dsimp only [Option.toList, List.cons_append, List.nil_append]
    refine r_icmp_ge (t := 116) hm rfl rfl (fun c29 => ?_) (fun c29 => ?_)
    · refine r_iinc hm rfl (hr := (by omega)) (k := ?_)
      refine r_goto (t := 6) hm rfl (k := ?_)
      have ek : k = pcs x i := by omega
      subst ek
      exact ih (d - 1) (by omega) (i + 1) _ n on _ _ (by omega) S1 hA pN.next
    · have hk2 : k < pcs x i := by omega
      have hb := ntK_ok hp1 hi2 (k := k) (by omega)
      rw [hA] at hb
      dsimp only at hb
      have h1p := hp1 i k hi2 hk2
      have hfl := fst_le hok i (by omega)
      have eS : ntK x pp i (k + 1) = nt1 x pp i k (n, on) := by rw [← hA]; rfl
      refine r_bipush hm rfl (k := ?_)
      refine r_iload_n hm rfl (k := ?_)
      refine r_imul hm rfl (hr := (by omega)) (k := ?_)
      refine r_iload hm rfl (k := ?_)
      refine r_iadd hm rfl (hr := (by omega)) (k := ?_)
      refine r_istore hm rfl (k := ?_)
      refine r_aload_n hm rfl (k := ?_)
      refine r_getR (hm := hm) (hf := rfl) (hd := rfl) (hs := (by first | assumption | exact (g1.1 _).trans rfl)) (hv := (by first | assumption | exact g1.2 _ _ _ rfl | exact Q0 _ _ (by omega) (by omega) | exact Q1 _ _ (by omega) (by omega) | exact Q2 _ _ (by omega) (by omega) | exact eP _ _ (by omega) (by omega))) (k := ?_)
      refine r_iload hm rfl (k := ?_)
      refine r_iconst hm rfl (k := ?_)
      refine r_iast (hm := hm) (hf := rfl) (h28 := (by omega)) (hs := (by first | assumption | exact (g1.1 _).trans rfl)) (kk := 20 * i + k) (hi := by omega) (hn := (by omega)) (k := ?_)
      refine RN.abs (fun h1 => Sm (fun a _ => a = 1106) h h1 ∧ PmK h1 1106 0 x (nct x pp) i k ∧ h1.2.1 1106 (20 * i + k) = 0) ⟨Sm.put S1 rfl, pN.at hok hi2 (by omega), putI_eq⟩ (fun h1 H9 => ?_)
      clear pN
      obtain ⟨S1, pN, e00⟩ := H9
      have g1 := S1.gg g
      have hc1 := (S1.2.2 1085 12 (by omega)).trans hc
      have hR1 := S1.repM (fun a k q9 => by omega) hR
      obtain ⟨M0, M1, M2, M3, M4, Q0, Q1, Q2, S0, N0, N1⟩ := hR1.use
      have eP := fun q k hq hk => (S1.2.2 1105 (20 * q + k) (by omega)).trans (hpp q k hq hk)
      refine r_aload_n hm rfl (k := ?_)
      refine r_getR (hm := hm) (hf := rfl) (hd := rfl) (hs := (by first | assumption | exact (g1.1 _).trans rfl)) (hv := (by first | assumption | exact g1.2 _ _ _ rfl | exact Q0 _ _ (by omega) (by omega) | exact Q1 _ _ (by omega) (by omega) | exact Q2 _ _ (by omega) (by omega) | exact eP _ _ (by omega) (by omega))) (k := ?_)
      refine r_aload_n hm rfl (k := ?_)
      refine r_iload_n hm rfl (k := ?_)
      refine r_iload hm rfl (k := ?_)
      refine r_callv (j2 := 186) hm rfl rfl rfl rfl rfl rfl (by first | assumption | exact (g1.1 _).trans rfl) (Nat.le_of_ble_eq_true rfl) (Nat.le_of_ble_eq_true rfl) rfl ⟨Nat.le_of_ble_eq_true rfl, Nat.le_of_ble_eq_true rfl, Nat.le_of_ble_eq_true rfl, Nat.le_of_ble_eq_true rfl, Nat.le_of_ble_eq_true rfl⟩ rfl (m_place g1 hc1 hc3 hR1 (i := i) (k := k) (by omega) (by omega)) (fun v9 h9 p9 => ?_)
      obtain ⟨e1, e2⟩ := p9
      subst e2
      replace e1 := e1.symm
      subst e1
      change RN 197 60 _ _ _ 0 0 _
      dsimp only [Option.toList, List.cons_append, List.nil_append]
      refine r_iald (hm := hm) (hf := rfl) (hs := (by first | assumption | exact (g1.1 _).trans rfl)) (hi := rfl) (hn := (by omega)) (hv := (by first | assumption | exact g1.2 _ _ _ rfl | exact Q0 _ _ (by omega) (by omega) | exact Q1 _ _ (by omega) (by omega) | exact Q2 _ _ (by omega) (by omega) | exact eP _ _ (by omega) (by omega))) (k := ?_)
      refine r_iconst hm rfl (k := ?_)
      refine r_icmp_ne (t := 110) hm rfl rfl (fun c62 => ?_) (fun c62 => ?_)
      · refine r_iinc hm rfl (hr := (by omega)) (k := ?_)
        refine r_goto (t := 22) hm rfl (k := ?_)
        have eN : nct x pp i k = 0 := if_neg (by omega)
        refine ih2 (d2 - 1) (by omega) (k + 1) _ n on _ (by omega) S1 (eS.trans (if_neg (by omega))) ⟨pN.1, fun k2 hk9 => ?_⟩
        by_cases e2 : k2 = k
        · rw [e2, eN, Nat.zero_add]; exact e00
        · exact pN.2 k2 (by omega)
      · refine r_aload_n hm rfl (k := ?_)
        refine r_bipush hm rfl (k := ?_)
        refine r_callv (j2 := 176) hm rfl rfl rfl rfl rfl rfl (by first | assumption | exact (g1.1 _).trans rfl) (Nat.le_of_ble_eq_true rfl) (Nat.le_of_ble_eq_true rfl) rfl ⟨Nat.le_of_ble_eq_true rfl, Nat.le_of_ble_eq_true rfl, Nat.le_of_ble_eq_true rfl, Nat.le_of_ble_eq_true rfl, Nat.le_of_ble_eq_true rfl⟩ rfl (m_rule g1 hc1 hc3 hR1 (i := 11) (by omega)) (fun v9 h9 p9 => ?_)
        obtain ⟨e1, e2⟩ := p9
        subst e2
        replace e1 := e1.symm
        subst e1
        change RN 197 71 _ _ _ 0 0 _
        dsimp only [Option.toList, List.cons_append, List.nil_append]
        refine r_iconst hm rfl (k := ?_)
        refine r_icmp_ne (t := 90) hm rfl rfl (fun c72 => ?_) (fun c72 => ?_)
        · refine r_iload_n hm rfl (k := ?_)
          refine r_iconst hm rfl (k := ?_)
          refine r_iadd hm rfl (hr := (by omega)) (k := ?_)
          refine r_istore_n hm rfl (k := ?_)
          refine r_aload_n hm rfl (k := ?_)
          refine r_getR (hm := hm) (hf := rfl) (hd := rfl) (hs := (by first | assumption | exact (g1.1 _).trans rfl)) (hv := (by first | assumption | exact g1.2 _ _ _ rfl | exact Q0 _ _ (by omega) (by omega) | exact Q1 _ _ (by omega) (by omega) | exact Q2 _ _ (by omega) (by omega) | exact eP _ _ (by omega) (by omega))) (k := ?_)
          refine r_iload hm rfl (k := ?_)
          refine r_iald (hm := hm) (hf := rfl) (hs := (by first | assumption | exact (g1.1 _).trans rfl)) (kk := 20 * i + k) (hi := by omega) (hn := (by omega)) (hv := (by first | assumption | exact g1.2 _ _ _ rfl | exact Q0 _ _ (by omega) (by omega) | exact Q1 _ _ (by omega) (by omega) | exact Q2 _ _ (by omega) (by omega) | exact eP _ _ (by omega) (by omega))) (k := ?_)
          refine r_istore_n hm rfl (k := ?_)
          refine r_aload_n hm rfl (k := ?_)
          refine r_getR (hm := hm) (hf := rfl) (hd := rfl) (hs := (by first | assumption | exact (g1.1 _).trans rfl)) (hv := (by first | assumption | exact g1.2 _ _ _ rfl | exact Q0 _ _ (by omega) (by omega) | exact Q1 _ _ (by omega) (by omega) | exact Q2 _ _ (by omega) (by omega) | exact eP _ _ (by omega) (by omega))) (k := ?_)
          refine r_iload hm rfl (k := ?_)
          refine r_iload_n hm rfl (k := ?_)
          refine r_iast (hm := hm) (hf := rfl) (h28 := (by omega)) (hs := (by first | assumption | exact (g1.1 _).trans rfl)) (kk := 20 * i + k) (hi := by omega) (hn := (by omega)) (k := ?_)
          refine r_iinc hm rfl (hr := (by omega)) (k := ?_)
          refine r_goto (t := 22) hm rfl (k := ?_)
          have eS2 : ntK x pp i (k + 1) = ((n + 1), pp i k) := by
            rw [eS]
            unfold nt1
            rw [if_pos (by omega), if_neg (by dsimp only; omega)]
          have eN : nct x pp i k = (n + 1) := by
            unfold nct
            rw [if_pos (by omega), eS2]
          exact ih2 (d2 - 1) (by omega) (k + 1) _ (n + 1) (pp i k) _ (by omega) (Sm.put S1 rfl) eS2 (pN.put hok hi2 (by omega) eN.symm)
        · refine r_aload_n hm rfl (k := ?_)
          refine r_getR (hm := hm) (hf := rfl) (hd := rfl) (hs := (by first | assumption | exact (g1.1 _).trans rfl)) (hv := (by first | assumption | exact g1.2 _ _ _ rfl | exact Q0 _ _ (by omega) (by omega) | exact Q1 _ _ (by omega) (by omega) | exact Q2 _ _ (by omega) (by omega) | exact eP _ _ (by omega) (by omega))) (k := ?_)
          refine r_iload hm rfl (k := ?_)
          refine r_iald (hm := hm) (hf := rfl) (hs := (by first | assumption | exact (g1.1 _).trans rfl)) (kk := 20 * i + k) (hi := by omega) (hn := (by omega)) (hv := (by first | assumption | exact g1.2 _ _ _ rfl | exact Q0 _ _ (by omega) (by omega) | exact Q1 _ _ (by omega) (by omega) | exact Q2 _ _ (by omega) (by omega) | exact eP _ _ (by omega) (by omega))) (k := ?_)
          refine r_iload_n hm rfl (k := ?_)
          refine r_icmp_eq (t := 90) hm rfl rfl (fun c83 => ?_) (fun c83 => ?_)
          · refine r_iload_n hm rfl (k := ?_)
            refine r_iconst hm rfl (k := ?_)
            refine r_iadd hm rfl (hr := (by omega)) (k := ?_)
            refine r_istore_n hm rfl (k := ?_)
            refine r_aload_n hm rfl (k := ?_)
            refine r_getR (hm := hm) (hf := rfl) (hd := rfl) (hs := (by first | assumption | exact (g1.1 _).trans rfl)) (hv := (by first | assumption | exact g1.2 _ _ _ rfl | exact Q0 _ _ (by omega) (by omega) | exact Q1 _ _ (by omega) (by omega) | exact Q2 _ _ (by omega) (by omega) | exact eP _ _ (by omega) (by omega))) (k := ?_)
            refine r_iload hm rfl (k := ?_)
            refine r_iald (hm := hm) (hf := rfl) (hs := (by first | assumption | exact (g1.1 _).trans rfl)) (kk := 20 * i + k) (hi := by omega) (hn := (by omega)) (hv := (by first | assumption | exact g1.2 _ _ _ rfl | exact Q0 _ _ (by omega) (by omega) | exact Q1 _ _ (by omega) (by omega) | exact Q2 _ _ (by omega) (by omega) | exact eP _ _ (by omega) (by omega))) (k := ?_)
            refine r_istore_n hm rfl (k := ?_)
            refine r_aload_n hm rfl (k := ?_)
            refine r_getR (hm := hm) (hf := rfl) (hd := rfl) (hs := (by first | assumption | exact (g1.1 _).trans rfl)) (hv := (by first | assumption | exact g1.2 _ _ _ rfl | exact Q0 _ _ (by omega) (by omega) | exact Q1 _ _ (by omega) (by omega) | exact Q2 _ _ (by omega) (by omega) | exact eP _ _ (by omega) (by omega))) (k := ?_)
            refine r_iload hm rfl (k := ?_)
            refine r_iload_n hm rfl (k := ?_)
            refine r_iast (hm := hm) (hf := rfl) (h28 := (by omega)) (hs := (by first | assumption | exact (g1.1 _).trans rfl)) (kk := 20 * i + k) (hi := by omega) (hn := (by omega)) (k := ?_)
            refine r_iinc hm rfl (hr := (by omega)) (k := ?_)
            refine r_goto (t := 22) hm rfl (k := ?_)
            have eS2 : ntK x pp i (k + 1) = ((n + 1), pp i k) := by
              rw [eS]
              unfold nt1
              rw [if_pos (by omega), if_neg (by dsimp only; omega)]
            have eN : nct x pp i k = (n + 1) := by
              unfold nct
              rw [if_pos (by omega), eS2]
            exact ih2 (d2 - 1) (by omega) (k + 1) _ (n + 1) (pp i k) _ (by omega) (Sm.put S1 rfl) eS2 (pN.put hok hi2 (by omega) eN.symm)
          · refine r_iconst hm rfl (k := ?_)
            refine r_goto (t := 93) hm rfl (k := ?_)
            refine r_istore_n hm rfl (k := ?_)
            refine r_aload_n hm rfl (k := ?_)
            refine r_getR (hm := hm) (hf := rfl) (hd := rfl) (hs := (by first | assumption | exact (g1.1 _).trans rfl)) (hv := (by first | assumption | exact g1.2 _ _ _ rfl | exact Q0 _ _ (by omega) (by omega) | exact Q1 _ _ (by omega) (by omega) | exact Q2 _ _ (by omega) (by omega) | exact eP _ _ (by omega) (by omega))) (k := ?_)
            refine r_iload hm rfl (k := ?_)
            refine r_iald (hm := hm) (hf := rfl) (hs := (by first | assumption | exact (g1.1 _).trans rfl)) (kk := 20 * i + k) (hi := by omega) (hn := (by omega)) (hv := (by first | assumption | exact g1.2 _ _ _ rfl | exact Q0 _ _ (by omega) (by omega) | exact Q1 _ _ (by omega) (by omega) | exact Q2 _ _ (by omega) (by omega) | exact eP _ _ (by omega) (by omega))) (k := ?_)
            refine r_istore_n hm rfl (k := ?_)
            refine r_aload_n hm rfl (k := ?_)
            refine r_getR (hm := hm) (hf := rfl) (hd := rfl) (hs := (by first | assumption | exact (g1.1 _).trans rfl)) (hv := (by first | assumption | exact g1.2 _ _ _ rfl | exact Q0 _ _ (by omega) (by omega) | exact Q1 _ _ (by omega) (by omega) | exact Q2 _ _ (by omega) (by omega) | exact eP _ _ (by omega) (by omega))) (k := ?_)
            refine r_iload hm rfl (k := ?_)
            refine r_iload_n hm rfl (k := ?_)
            refine r_iast (hm := hm) (hf := rfl) (h28 := (by omega)) (hs := (by first | assumption | exact (g1.1 _).trans rfl)) (kk := 20 * i + k) (hi := by omega) (hn := (by omega)) (k := ?_)
            refine r_iinc hm rfl (hr := (by omega)) (k := ?_)
            refine r_goto (t := 22) hm rfl (k := ?_)
            have eS2 : ntK x pp i (k + 1) = (1, pp i k) := by
              rw [eS]
              unfold nt1
              rw [if_pos (by omega), if_pos ⟨by omega, by dsimp only; omega⟩]
            have eN : nct x pp i k = 1 := by
              unfold nct
              rw [if_pos (by omega), eS2]
            exact ih2 (d2 - 1) (by omega) (k + 1) _ 1 (pp i k) _ (by omega) (Sm.put S1 rfl) eS2 (pN.put hok hi2 (by omega) eN.symm)
set_option maxRecDepth 8000 in
theorem m_findNext {L : Nat} {h : Hp} {c : Nat} {x : Tx} (g : GG L h) (hc : h.2.1 1085 12 = (c : Int)) (hc3 : c ≤ 3) (hR : RepM h c x) {H : Int} {lt : LT} (hok : okTx x) (hl : okLt x lt) (hH : 8 ≤ H ∧ H ≤ 60) (hq : PgM h H (psf x H lt)) (hy : LyM h x lt x.1 (ppf x H lt)) (hN : NmM h x x.1) : RN 196 0 [some (.inr (.inr (some 1085))), none, none, none, none] [] h 0 0 (fun v h2 => Sm (fun a _ => a = 1106 ∨ a = 1115) h h2 ∧ PmK h2 1106 0 x (nct x (ppf x H lt)) x.1 0 ∧ PmK h2 1115 0 x (nx x H lt) x.1 0 ∧ v = none) := by
  have hm : mrec 196 = some nM196 := rfl
  have n60 := hok.1
  have hp0 := (ly_ok hok hl hH x.1 (Nat.le_refl _)).2
  have hp1 : ∀ q k, q < x.1 → k < pcs x q → 1 ≤ ppf x H lt q k := fun q k hq hk => (hp0 q k hq hk).1
  have hp2 : ∀ q k, q < x.1 → k < pcs x q → 0 ≤ ppf x H lt q k ∧ ppf x H lt q k ≤ 1250 := fun q k hq hk => by have := hp0 q k hq hk; unfold ppf; omega
  have g1 := g
  refine r_aload_n hm rfl (k := ?_)
  refine r_callv (j2 := 197) hm rfl rfl rfl rfl rfl rfl (by first | assumption | exact (g1.1 _).trans rfl) (Nat.le_of_ble_eq_true rfl) (Nat.le_of_ble_eq_true rfl) rfl ⟨Nat.le_of_ble_eq_true rfl, Nat.le_of_ble_eq_true rfl, Nat.le_of_ble_eq_true rfl, Nat.le_of_ble_eq_true rfl, Nat.le_of_ble_eq_true rfl⟩ rfl (m_countNotes g hc hc3 hR hok (pp := ppf x H lt) (fun q k hq hk => (hy.2 q k hq hk).2) hp1) (fun v9 hA p9 => ?_)
  obtain ⟨SA, nA, e1⟩ := p9
  subst e1
  have g1 := SA.gg g
  change RN 196 4 _ _ _ 0 0 _
  dsimp only [Option.toList, List.nil_append]
  refine r_iconst hm rfl (k := ?_)
  refine r_istore_n hm rfl (k := ?_)
  suffices LP : ∀ (d i : Nat) (h1 : Hp) (z2 z3 z4 : Option Vl), i + d = x.1 → Sm (fun a _ => a = 1106 ∨ a = 1115) h h1 → PmK h1 1106 0 x (nct x (ppf x H lt)) x.1 0 → PmK h1 1115 0 x (nx x H lt) i 0 → RN 196 6 [some (.inr (.inr (some 1085))), some (.inl (i : Int)), z2, z3, z4] [] h1 0 0 (fun v h2 => Sm (fun a _ => a = 1106 ∨ a = 1115) h h2 ∧ PmK h2 1106 0 x (nct x (ppf x H lt)) x.1 0 ∧ PmK h2 1115 0 x (nx x H lt) x.1 0 ∧ v = none) from LP x.1 0 _ _ _ _ (by omega) (SA.mono (fun a k z => by omega)) nA PmK.nil
  clear nA SA
  refine fun d => Nat.strongRecOn d (fun d ih => ?_)
  intro i h1 z2 z3 z4 hd S1 nA pS
  have g1 := S1.gg g
  have hc1 := (S1.2.2 1085 12 (by omega)).trans hc
  have hR1 := S1.repM (fun a k q9 => by omega) hR
  obtain ⟨M0, M1, M2, M3, M4, Q0, Q1, Q2, S0, N0, N1⟩ := hR1.use
  refine r_iload_n hm rfl (k := ?_)
  refine r_aload_n hm rfl (k := ?_)
  refine r_getR (hm := hm) (hf := rfl) (hd := rfl) (hs := (by first | assumption | exact (g1.1 _).trans rfl)) (hv := (by first | assumption | exact g1.2 _ _ _ rfl | exact Q0 _ _ (by omega) (by omega) | exact Q1 _ _ (by omega) (by omega) | exact Q2 _ _ (by omega) (by omega) | exact eC)) (k := ?_)
  refine r_aload_n hm rfl (k := ?_)
  refine r_getI (hm := hm) (hf := rfl) (hd := rfl) (hs := (by first | assumption | exact (g1.1 _).trans rfl)) (hv := (by first | assumption | exact g1.2 _ _ _ rfl | exact Q0 _ _ (by omega) (by omega) | exact Q1 _ _ (by omega) (by omega) | exact Q2 _ _ (by omega) (by omega) | exact eC)) (k := ?_)
  refine r_iald (hm := hm) (hf := rfl) (hs := (by first | assumption | exact (g1.1 _).trans rfl)) (kk := c) (hi := by omega) (hn := (by omega)) (hv := (by first | assumption | exact g1.2 _ _ _ rfl | exact Q0 _ _ (by omega) (by omega) | exact Q1 _ _ (by omega) (by omega) | exact Q2 _ _ (by omega) (by omega) | exact eC)) (k := ?_)
  refine r_icmp_ge (t := 111) hm rfl rfl (fun c16 => ?_) (fun c16 => ?_)
  · refine r_return hm rfl rfl (Nat.le_of_ble_eq_true rfl) (Nat.le_of_ble_eq_true rfl) ?_
    have ei : i = x.1 := by omega
    subst ei
    exact ⟨S1, nA, pS, rfl⟩
  · have hi2 : i < x.1 := by omega
    obtain ⟨ep, ep2⟩ := pcs_eq hok hi2
    refine r_iconst hm rfl (k := ?_)
    refine r_istore_n hm rfl (k := ?_)
    suffices LP : ∀ (d2 k : Nat) (h1 : Hp) (z3 z4 : Option Vl), k + d2 = pcs x i → Sm (fun a _ => a = 1106 ∨ a = 1115) h h1 → PmK h1 1106 0 x (nct x (ppf x H lt)) x.1 0 → PmK h1 1115 0 x (nx x H lt) i k → RN 196 21 [some (.inr (.inr (some 1085))), some (.inl (i : Int)), some (.inl (k : Int)), z3, z4] [] h1 0 0 (fun v h2 => Sm (fun a _ => a = 1106 ∨ a = 1115) h h2 ∧ PmK h2 1106 0 x (nct x (ppf x H lt)) x.1 0 ∧ PmK h2 1115 0 x (nx x H lt) x.1 0 ∧ v = none) from LP (pcs x i) 0 _ _ _ (by omega) S1 nA pS
    refine fun d2 => Nat.strongRecOn d2 (fun d2 ih2 => ?_)
    intro k h1 z3 z4 hd2 S1 nA pS
    have g1 := S1.gg g
    have hc1 := (S1.2.2 1085 12 (by omega)).trans hc
    have hR1 := S1.repM (fun a k q9 => by omega) hR
    obtain ⟨M0, M1, M2, M3, M4, Q0, Q1, Q2, S0, N0, N1⟩ := hR1.use
    refine r_iload_n hm rfl (k := ?_)
    refine r_aload_n hm rfl (k := ?_)
    refine r_iload_n hm rfl (k := ?_)
    refine r_callv (j2 := 181) hm rfl rfl rfl rfl rfl rfl (by first | assumption | exact (g1.1 _).trans rfl) (Nat.le_of_ble_eq_true rfl) (Nat.le_of_ble_eq_true rfl) rfl ⟨Nat.le_of_ble_eq_true rfl, Nat.le_of_ble_eq_true rfl, Nat.le_of_ble_eq_true rfl, Nat.le_of_ble_eq_true rfl, Nat.le_of_ble_eq_true rfl⟩ rfl (m_piecesOf g1 hc1 hc3 hR1 (i := i) (by omega)) (fun v9 h9 p9 => ?_)
    obtain ⟨e1, e2⟩ := p9
    subst e2
    replace e1 := e1.symm
    subst e1
    change RN 196 27 _ _ _ 0 0 _
    dsimp only [Option.toList, List.cons_append, List.nil_append]
    refine r_icmp_ge (t := 105) hm rfl rfl (fun c27 => ?_) (fun c27 => ?_)
    · refine r_iinc hm rfl (hr := (by omega)) (k := ?_)
      refine r_goto (t := 6) hm rfl (k := ?_)
      have ek : k = pcs x i := by omega
      subst ek
      exact ih (d - 1) (by omega) (i + 1) _ _ _ _ (by omega) S1 nA pS.next
    · have hk2 : k < pcs x i := by omega
      have hz := hok.2.2.1 i k hi2 (by omega)
      unfold okPc at hz
      have hcr := nct_rng hok hp1 hi2 hk2
      have hpr := hp2 i k hi2 hk2
      have eC := nA.zero hi2 hk2
      refine r_bipush hm rfl (k := ?_)
      refine r_iload_n hm rfl (k := ?_)
      refine r_imul hm rfl (hr := (by omega)) (k := ?_)
      refine r_iload_n hm rfl (k := ?_)
      refine r_iadd hm rfl (hr := (by omega)) (k := ?_)
      refine r_istore_n hm rfl (k := ?_)
      refine r_aload_n hm rfl (k := ?_)
      refine r_getR (hm := hm) (hf := rfl) (hd := rfl) (hs := (by first | assumption | exact (g1.1 _).trans rfl)) (hv := (by first | assumption | exact g1.2 _ _ _ rfl | exact Q0 _ _ (by omega) (by omega) | exact Q1 _ _ (by omega) (by omega) | exact Q2 _ _ (by omega) (by omega) | exact eC)) (k := ?_)
      refine r_aload_n hm rfl (k := ?_)
      refine r_iload_n hm rfl (k := ?_)
      refine r_iload_n hm rfl (k := ?_)
      refine r_callv (j2 := 186) hm rfl rfl rfl rfl rfl rfl (by first | assumption | exact (g1.1 _).trans rfl) (Nat.le_of_ble_eq_true rfl) (Nat.le_of_ble_eq_true rfl) rfl ⟨Nat.le_of_ble_eq_true rfl, Nat.le_of_ble_eq_true rfl, Nat.le_of_ble_eq_true rfl, Nat.le_of_ble_eq_true rfl, Nat.le_of_ble_eq_true rfl⟩ rfl (m_place g1 hc1 hc3 hR1 (i := i) (k := k) (by omega) (by omega)) (fun v9 h9 p9 => ?_)
      obtain ⟨e1, e2⟩ := p9
      subst e2
      replace e1 := e1.symm
      subst e1
      change RN 196 47 _ _ _ 0 0 _
      dsimp only [Option.toList, List.cons_append, List.nil_append]
      refine r_iald (hm := hm) (hf := rfl) (hs := (by first | assumption | exact (g1.1 _).trans rfl)) (hi := rfl) (hn := (by omega)) (hv := (by first | assumption | exact g1.2 _ _ _ rfl | exact Q0 _ _ (by omega) (by omega) | exact Q1 _ _ (by omega) (by omega) | exact Q2 _ _ (by omega) (by omega) | exact eC)) (k := ?_)
      refine r_istore hm rfl (k := ?_)
      refine r_aload_n hm rfl (k := ?_)
      refine r_getR (hm := hm) (hf := rfl) (hd := rfl) (hs := (by first | assumption | exact (g1.1 _).trans rfl)) (hv := (by first | assumption | exact g1.2 _ _ _ rfl | exact Q0 _ _ (by omega) (by omega) | exact Q1 _ _ (by omega) (by omega) | exact Q2 _ _ (by omega) (by omega) | exact eC)) (k := ?_)
      refine r_iload_n hm rfl (k := ?_)
      refine r_iload hm rfl (k := ?_)
      refine r_if_ne (t := 74) hm rfl rfl (fun c57 => ?_) (fun c57 => ?_)
      · refine r_iload hm rfl (k := ?_)
        refine r_iconst hm rfl (k := ?_)
        refine r_icmp_ne (t := 89) hm rfl rfl (fun c77 => ?_) (fun c77 => ?_)
        · refine r_aload_n hm rfl (k := ?_)
          refine r_getR (hm := hm) (hf := rfl) (hd := rfl) (hs := (by first | assumption | exact (g1.1 _).trans rfl)) (hv := (by first | assumption | exact g1.2 _ _ _ rfl | exact Q0 _ _ (by omega) (by omega) | exact Q1 _ _ (by omega) (by omega) | exact Q2 _ _ (by omega) (by omega) | exact eC)) (k := ?_)
          refine r_iload_n hm rfl (k := ?_)
          refine r_iald (hm := hm) (hf := rfl) (hs := (by first | assumption | exact (g1.1 _).trans rfl)) (kk := 20 * i + k) (hi := by omega) (hn := (by omega)) (hv := (by first | assumption | exact g1.2 _ _ _ rfl | exact Q0 _ _ (by omega) (by omega) | exact Q1 _ _ (by omega) (by omega) | exact Q2 _ _ (by omega) (by omega) | exact eC)) (k := ?_)
          refine r_calls (j2 := 179) hm rfl rfl rfl rfl rfl rfl (Nat.le_of_ble_eq_true rfl) (Nat.le_of_ble_eq_true rfl) rfl ⟨Nat.le_of_ble_eq_true rfl, Nat.le_of_ble_eq_true rfl, Nat.le_of_ble_eq_true rfl, Nat.le_of_ble_eq_true rfl, Nat.le_of_ble_eq_true rfl⟩ rfl (m_figures (by omega) (by omega)) (fun v9 h9 p9 => ?_)
          obtain ⟨e1, e2⟩ := p9
          subst e2
          replace e1 := e1.symm
          subst e1
          change RN 196 98 _ _ _ 0 0 _
          dsimp only [Option.toList, List.cons_append, List.nil_append]
          refine r_iast (hm := hm) (hf := rfl) (h28 := (by omega)) (hs := (by first | assumption | exact (g1.1 _).trans rfl)) (kk := 20 * i + k) (hi := by omega) (hn := (by omega)) (k := ?_)
          refine r_iinc hm rfl (hr := (by omega)) (k := ?_)
          refine r_goto (t := 21) hm rfl (k := ?_)
          refine ih2 (d2 - 1) (by omega) (k + 1) _ _ _ (by omega) (Sm.put S1 (by omega)) (nA.ne (by omega)) (pS.put hok hi2 (by omega) ?_)
          unfold nx
          rw [if_neg (by omega), if_pos (by omega)]
        · have qC := m_saidCall g1 hc1 hc3 hR1 hok hi2 hk2 (by omega) (fun q hq9 => (S1.2.2 _ _ (by omega)).trans (hN q hq9).2.2.2.1) (fun q hq9 => (S1.2.2 _ _ (by omega)).trans (hq.2.2.2.2.2.1 q (by have := (psf_ok hok hl hH).2.1 q hq9; omega))) (fun q hq9 => by have := (psf_ok hok hl hH).2.1 q hq9; omega) ((S1.2.2 _ _ (by omega)).trans (hy.2 i k hi2 hk2).2) (by omega)
          refine r_aload_n hm rfl (k := ?_)
          refine r_iload_n hm rfl (k := ?_)
          refine r_iload_n hm rfl (k := ?_)
          refine r_callv (j2 := 198) hm rfl rfl rfl rfl rfl rfl (by first | assumption | exact (g1.1 _).trans rfl) (Nat.le_of_ble_eq_true rfl) (Nat.le_of_ble_eq_true rfl) rfl ⟨Nat.le_of_ble_eq_true rfl, Nat.le_of_ble_eq_true rfl, Nat.le_of_ble_eq_true rfl, Nat.le_of_ble_eq_true rfl, Nat.le_of_ble_eq_true rfl⟩ rfl (qC) (fun v9 h9 p9 => ?_)
          obtain ⟨e1, e2⟩ := p9
          subst e2
          replace e1 := e1.symm
          subst e1
          change RN 196 86 _ _ _ 0 0 _
          dsimp only [Option.toList, List.cons_append, List.nil_append]
          refine r_goto (t := 98) hm rfl (k := ?_)
          refine r_iast (hm := hm) (hf := rfl) (h28 := (by omega)) (hs := (by first | assumption | exact (g1.1 _).trans rfl)) (kk := 20 * i + k) (hi := by omega) (hn := (by omega)) (k := ?_)
          refine r_iinc hm rfl (hr := (by omega)) (k := ?_)
          refine r_goto (t := 21) hm rfl (k := ?_)
          refine ih2 (d2 - 1) (by omega) (k + 1) _ _ _ (by omega) (Sm.put S1 (by omega)) (nA.ne (by omega)) (pS.put hok hi2 (by omega) ?_)
          unfold nx
          rw [if_pos (by omega)]
      · refine r_aload_n hm rfl (k := ?_)
        refine r_getR (hm := hm) (hf := rfl) (hd := rfl) (hs := (by first | assumption | exact (g1.1 _).trans rfl)) (hv := (by first | assumption | exact g1.2 _ _ _ rfl | exact Q0 _ _ (by omega) (by omega) | exact Q1 _ _ (by omega) (by omega) | exact Q2 _ _ (by omega) (by omega) | exact eC)) (k := ?_)
        refine r_aload_n hm rfl (k := ?_)
        refine r_iload_n hm rfl (k := ?_)
        refine r_iload_n hm rfl (k := ?_)
        refine r_callv (j2 := 186) hm rfl rfl rfl rfl rfl rfl (by first | assumption | exact (g1.1 _).trans rfl) (Nat.le_of_ble_eq_true rfl) (Nat.le_of_ble_eq_true rfl) rfl ⟨Nat.le_of_ble_eq_true rfl, Nat.le_of_ble_eq_true rfl, Nat.le_of_ble_eq_true rfl, Nat.le_of_ble_eq_true rfl, Nat.le_of_ble_eq_true rfl⟩ rfl (m_place g1 hc1 hc3 hR1 (i := i) (k := k) (by omega) (by omega)) (fun v9 h9 p9 => ?_)
        obtain ⟨e1, e2⟩ := p9
        subst e2
        replace e1 := e1.symm
        subst e1
        change RN 196 70 _ _ _ 0 0 _
        dsimp only [Option.toList, List.cons_append, List.nil_append]
        refine r_iald (hm := hm) (hf := rfl) (hs := (by first | assumption | exact (g1.1 _).trans rfl)) (hi := rfl) (hn := (by omega)) (hv := (by first | assumption | exact g1.2 _ _ _ rfl | exact Q0 _ _ (by omega) (by omega) | exact Q1 _ _ (by omega) (by omega) | exact Q2 _ _ (by omega) (by omega) | exact eC)) (k := ?_)
        refine r_goto (t := 98) hm rfl (k := ?_)
        refine r_iast (hm := hm) (hf := rfl) (h28 := (by omega)) (hs := (by first | assumption | exact (g1.1 _).trans rfl)) (kk := 20 * i + k) (hi := by omega) (hn := (by omega)) (k := ?_)
        refine r_iinc hm rfl (hr := (by omega)) (k := ?_)
        refine r_goto (t := 21) hm rfl (k := ?_)
        refine ih2 (d2 - 1) (by omega) (k + 1) _ _ _ (by omega) (Sm.put S1 (by omega)) (nA.ne (by omega)) (pS.put hok hi2 (by omega) ?_)
        unfold nx
        rw [if_neg (by omega), if_neg (by omega)]
set_option maxRecDepth 8000 in
theorem m_isLike {L : Nat} {h : Hp} {c : Nat} {x : Tx} (g : GG L h) (hc : h.2.1 1085 12 = (c : Int)) (hc3 : c ≤ 3) (hR : RepM h c x) {f f2 : LT} {o9 : Nat} {r0 : Int} (hok : okTx x) (ho : o9 ≤ 11) (hA : PmK h 1115 0 x f2 x.1 0) (hB : PmK h 1103 (1200 * o9) x f x.1 0) : RN 200 0 [some (.inr (.inr (some 1085))), some (.inl r0), some (.inl (o9 : Int)), none, none, none] [] h 0 0 (fun v h2 => h2 = h ∧ v = some (.inl (if dfB x f2 f = false then 1 else 0))) := by
  have hm : mrec 200 = some nM200 := rfl
  have n60 := hok.1
  have g1 := g
  have hc1 := hc
  have hR1 := hR
  obtain ⟨M0, M1, M2, M3, M4, Q0, Q1, Q2, S0, N0, N1⟩ := hR.use
  refine r_iconst hm rfl (k := ?_)
  refine r_istore_n hm rfl (k := ?_)
  refine r_iconst hm rfl (k := ?_)
  refine r_istore hm rfl (k := ?_)
  suffices LP : ∀ (d i : Nat) (b : Int) (z5 : Option Vl), i + d = x.1 → ((b = 1 ∧ (∀ q k2, q < i → k2 < pcs x q → f2 q k2 = f q k2) ∧ ∀ k2, k2 < 0 → f2 i k2 = f i k2) ∨ (b = 0 ∧ ∃ q k2, q < x.1 ∧ k2 < pcs x q ∧ f2 q k2 ≠ f q k2)) → RN 200 5 [some (.inr (.inr (some 1085))), some (.inl r0), some (.inl (o9 : Int)), some (.inl b), some (.inl (i : Int)), z5] [] h 0 0 (fun v h2 => h2 = h ∧ v = some (.inl (if dfB x f2 f = false then 1 else 0))) from LP x.1 0 1 _ (by omega) (Or.inl ⟨rfl, fun q k2 hq => absurd hq (Nat.not_lt_zero _), fun k2 hk => absurd hk (Nat.not_lt_zero _)⟩)
  refine fun d => Nat.strongRecOn d (fun d ih => ?_)
  intro i b z5 hd hb
  refine r_iload hm rfl (k := ?_)
  refine r_aload_n hm rfl (k := ?_)
  refine r_getR (hm := hm) (hf := rfl) (hd := rfl) (hs := (by first | assumption | exact (g1.1 _).trans rfl)) (hv := (by first | assumption | exact g1.2 _ _ _ rfl | exact Q0 _ _ (by omega) (by omega) | exact Q1 _ _ (by omega) (by omega) | exact Q2 _ _ (by omega) (by omega) | exact eA | exact eB)) (k := ?_)
  refine r_aload_n hm rfl (k := ?_)
  refine r_getI (hm := hm) (hf := rfl) (hd := rfl) (hs := (by first | assumption | exact (g1.1 _).trans rfl)) (hv := (by first | assumption | exact g1.2 _ _ _ rfl | exact Q0 _ _ (by omega) (by omega) | exact Q1 _ _ (by omega) (by omega) | exact Q2 _ _ (by omega) (by omega) | exact eA | exact eB)) (k := ?_)
  refine r_iald (hm := hm) (hf := rfl) (hs := (by first | assumption | exact (g1.1 _).trans rfl)) (kk := c) (hi := by omega) (hn := (by omega)) (hv := (by first | assumption | exact g1.2 _ _ _ rfl | exact Q0 _ _ (by omega) (by omega) | exact Q1 _ _ (by omega) (by omega) | exact Q2 _ _ (by omega) (by omega) | exact eA | exact eB)) (k := ?_)
  refine r_icmp_ge (t := 90) hm rfl rfl (fun c16 => ?_) (fun c16 => ?_)
  · refine r_iload_n hm rfl (k := ?_)
    refine r_ireturn hm rfl rfl (by first | rfl | (rcases hb with hb | hb <;> rw [hb.1] <;> rfl)) (Nat.le_of_ble_eq_true rfl) (Nat.le_of_ble_eq_true rfl) ?_
    have ei : i = x.1 := by omega
    subst ei
    refine ⟨rfl, ?_⟩
    rcases hb with ⟨e0, e1, -⟩ | ⟨e0, q, k2, hq, hk, hne⟩
    · rw [if_pos (dfB_f.mpr e1), e0]
    · rw [if_neg (fun z => hne (dfB_f.mp z q k2 hq hk)), e0]
  · have hi2 : i < x.1 := by omega
    obtain ⟨ep, ep2⟩ := pcs_eq hok hi2
    refine r_iconst hm rfl (k := ?_)
    refine r_istore hm rfl (k := ?_)
    suffices LP : ∀ (d2 k : Nat) (b : Int), k + d2 = pcs x i → ((b = 1 ∧ (∀ q k2, q < i → k2 < pcs x q → f2 q k2 = f q k2) ∧ ∀ k2, k2 < k → f2 i k2 = f i k2) ∨ (b = 0 ∧ ∃ q k2, q < x.1 ∧ k2 < pcs x q ∧ f2 q k2 ≠ f q k2)) → RN 200 22 [some (.inr (.inr (some 1085))), some (.inl r0), some (.inl (o9 : Int)), some (.inl b), some (.inl (i : Int)), some (.inl (k : Int))] [] h 0 0 (fun v h2 => h2 = h ∧ v = some (.inl (if dfB x f2 f = false then 1 else 0))) from LP (pcs x i) 0 b (by omega) hb
    refine fun d2 => Nat.strongRecOn d2 (fun d2 ih2 => ?_)
    intro k b hd2 hb
    refine r_iload hm rfl (k := ?_)
    refine r_aload_n hm rfl (k := ?_)
    refine r_iload hm rfl (k := ?_)
    refine r_callv (j2 := 181) hm rfl rfl rfl rfl rfl rfl (by first | assumption | exact (g1.1 _).trans rfl) (Nat.le_of_ble_eq_true rfl) (Nat.le_of_ble_eq_true rfl) rfl ⟨Nat.le_of_ble_eq_true rfl, Nat.le_of_ble_eq_true rfl, Nat.le_of_ble_eq_true rfl, Nat.le_of_ble_eq_true rfl, Nat.le_of_ble_eq_true rfl⟩ rfl (m_piecesOf g1 hc1 hc3 hR1 (i := i) (by omega)) (fun v9 h9 p9 => ?_)
    obtain ⟨e1, e2⟩ := p9
    subst e2
    replace e1 := e1.symm
    subst e1
    change RN 200 30 _ _ _ 0 0 _
    dsimp only [Option.toList, List.cons_append, List.nil_append]
    refine r_icmp_ge (t := 84) hm rfl rfl (fun c30 => ?_) (fun c30 => ?_)
    · refine r_iinc hm rfl (hr := (by omega)) (k := ?_)
      refine r_goto (t := 5) hm rfl (k := ?_)
      have ek : k = pcs x i := by omega
      subst ek
      refine ih (d - 1) (by omega) (i + 1) b _ (by omega) ?_
      rcases hb with ⟨e0, e1, e2⟩ | e
      · refine Or.inl ⟨e0, fun q k2 hq hk => ?_, fun k2 hk => absurd hk (Nat.not_lt_zero _)⟩
        by_cases e3 : q = i
        · subst e3; exact e2 k2 hk
        · exact e1 q k2 (by omega) hk
      · exact Or.inr e
    · have eA := hA.zero hi2 (k := k) (by omega)
      have eB := hB.1 i k hi2 (by omega)
      refine r_iload_n hm rfl (k := ?_)
      refine r_if_eq (t := 76) hm rfl rfl (fun c34 => ?_) (fun c34 => ?_)
      · refine r_iconst hm rfl (k := ?_)
        refine r_istore_n hm rfl (k := ?_)
        refine r_iinc hm rfl (hr := (by omega)) (k := ?_)
        refine r_goto (t := 22) hm rfl (k := ?_)
        exact ih2 (d2 - 1) (by omega) (k + 1) 0 (by omega) (Or.inr ⟨rfl, by rcases hb with ⟨e, -⟩ | ⟨-, e⟩; omega; exact e⟩)
      · refine r_aload_n hm rfl (k := ?_)
        refine r_getR (hm := hm) (hf := rfl) (hd := rfl) (hs := (by first | assumption | exact (g1.1 _).trans rfl)) (hv := (by first | assumption | exact g1.2 _ _ _ rfl | exact Q0 _ _ (by omega) (by omega) | exact Q1 _ _ (by omega) (by omega) | exact Q2 _ _ (by omega) (by omega) | exact eA | exact eB)) (k := ?_)
        refine r_bipush hm rfl (k := ?_)
        refine r_iload hm rfl (k := ?_)
        refine r_imul hm rfl (hr := (by omega)) (k := ?_)
        refine r_iload hm rfl (k := ?_)
        refine r_iadd hm rfl (hr := (by omega)) (k := ?_)
        refine r_iald (hm := hm) (hf := rfl) (hs := (by first | assumption | exact (g1.1 _).trans rfl)) (kk := 20 * i + k) (hi := by omega) (hn := (by omega)) (hv := (by first | assumption | exact g1.2 _ _ _ rfl | exact Q0 _ _ (by omega) (by omega) | exact Q1 _ _ (by omega) (by omega) | exact Q2 _ _ (by omega) (by omega) | exact eA | exact eB)) (k := ?_)
        refine r_aload_n hm rfl (k := ?_)
        refine r_getR (hm := hm) (hf := rfl) (hd := rfl) (hs := (by first | assumption | exact (g1.1 _).trans rfl)) (hv := (by first | assumption | exact g1.2 _ _ _ rfl | exact Q0 _ _ (by omega) (by omega) | exact Q1 _ _ (by omega) (by omega) | exact Q2 _ _ (by omega) (by omega) | exact eA | exact eB)) (k := ?_)
        refine r_sipush hm rfl (k := ?_)
        refine r_iload_n hm rfl (k := ?_)
        refine r_imul hm rfl (hr := (by omega)) (k := ?_)
        refine r_bipush hm rfl (k := ?_)
        refine r_iload hm rfl (k := ?_)
        refine r_imul hm rfl (hr := (by omega)) (k := ?_)
        refine r_iadd hm rfl (hr := (by omega)) (k := ?_)
        refine r_iload hm rfl (k := ?_)
        refine r_iadd hm rfl (hr := (by omega)) (k := ?_)
        refine r_iald (hm := hm) (hf := rfl) (hs := (by first | assumption | exact (g1.1 _).trans rfl)) (kk := 1200 * o9 + 20 * i + k) (hi := by omega) (hn := (by omega)) (hv := (by first | assumption | exact g1.2 _ _ _ rfl | exact Q0 _ _ (by omega) (by omega) | exact Q1 _ _ (by omega) (by omega) | exact Q2 _ _ (by omega) (by omega) | exact eA | exact eB)) (k := ?_)
        refine r_icmp_ne (t := 76) hm rfl rfl (fun c69 => ?_) (fun c69 => ?_)
        · refine r_iconst hm rfl (k := ?_)
          refine r_istore_n hm rfl (k := ?_)
          refine r_iinc hm rfl (hr := (by omega)) (k := ?_)
          refine r_goto (t := 22) hm rfl (k := ?_)
          exact ih2 (d2 - 1) (by omega) (k + 1) 0 (by omega) (Or.inr ⟨rfl, i, k, hi2, by omega, c69⟩)
        · refine r_iconst hm rfl (k := ?_)
          refine r_goto (t := 77) hm rfl (k := ?_)
          refine r_istore_n hm rfl (k := ?_)
          refine r_iinc hm rfl (hr := (by omega)) (k := ?_)
          refine r_goto (t := 22) hm rfl (k := ?_)
          refine ih2 (d2 - 1) (by omega) (k + 1) 1 (by omega) (Or.inl ⟨rfl, ?_⟩)
          rcases hb with ⟨-, e1, e2⟩ | ⟨e, -⟩
          · refine ⟨e1, fun k2 hk9 => ?_⟩
            by_cases e3 : k2 = k
            · rw [e3]; exact Decidable.not_not.mp c69
            · exact e2 k2 (by omega)
          · omega
