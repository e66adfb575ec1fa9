/-! the style read: the class -/
theorem bw0 {p : Bool} : (if p = true then (1 : Int) else 0) = 0 ↔ p = false := by cases p <;> simp
theorem bw1 {p : Bool} : ¬ ((if p = true then (1 : Int) else 0) = 0) ↔ p = true := by cases p <;> simp
theorem R0.pN {L : Nat} {h0 h : Hp} {b : Nat → Int} {n : Nat} {a w : Int} {s : Rd} (D : R0 L h0 h b n s) : R0 L h0 (putI (putI h 347 2 a) 347 3 w) b n (s.1, a, w, s.2.2.2.1, s.2.2.2.2.1, s.2.2.2.2.2) := by
  obtain ⟨g1, C, SM, dl, dn, db, dbr, df, da, dd, dc, dv⟩ := id D
  have D1 : R0 L h0 (putI h 347 2 a) b n (s.1, a, s.2.2.1, s.2.2.2.1, s.2.2.2.2.1, s.2.2.2.2.2) := by
    refine D.pu (by unfold regR; omega) putI_eq ?_ (fun q hq => ?_) (fun q hq => ?_) (fun q hq => ?_)
    · rw [putI_ne (by omega)]; exact da
    · rw [putI_ne (by omega)]; exact dd q hq
    · rw [putI_ne (by omega)]; exact dc q hq
    · rw [putI_ne (by omega)]; exact dv q hq
  refine D1.pu (by unfold regR; omega) ?_ putI_eq (fun q hq => ?_) (fun q hq => ?_) (fun q hq => ?_)
  · rw [putI_ne (by omega), putI_eq]
  · rw [putI_ne (by omega), putI_ne (by omega)]; exact dd q hq
  · rw [putI_ne (by omega), putI_ne (by omega)]; exact dc q hq
  · rw [putI_ne (by omega), putI_ne (by omega)]; exact dv q hq
theorem Rr.pD {L : Nat} {h0 h : Hp} {b : Nat → Int} {n k : Nat} {v : Int} {s : Rd} (D : Rr L h0 h b n s) (hv : (k = 0 ∧ 8 ≤ v ∧ v ≤ 60) ∨ (k = 1 ∧ 10 ≤ v ∧ v ≤ 90) ∨ (2 ≤ k ∧ k < 6 ∧ 0 ≤ v ∧ v ≤ 2) ∨ (6 ≤ k ∧ (v = 0 ∨ v = 1))) : Rr L h0 (putI h 349 k v) b n (stD s k v) := by
  obtain ⟨D0, ok9, t7, t8, t9⟩ := id D
  obtain ⟨g1, C, SM, dl, dn, db, dbr, df, da, dd, dc, dv⟩ := id D0
  refine ⟨D0.pu (by unfold regR; omega) ?_ ?_ (fun q hq => ?_) (fun q hq => ?_) (fun q hq => ?_), ok9.m_stD hv, ?_, ?_, ?_⟩
  · rw [putI_ne (by omega)]; exact df
  · rw [putI_ne (by omega)]; exact da
  · show _ = upf s.2.2.2.1 k v q
    by_cases e : q = k
    · rw [e, putI_eq, upf_eq]
    · rw [putI_ne (by omega), upf_ne e]; exact dd q hq
  · rw [putI_ne (by omega)]; exact dc q hq
  · rw [putI_ne (by omega)]; exact dv q hq
  · rw [putI_ne (by omega)]; exact t7
  · rw [putI_ne (by omega)]; exact t8
  · rw [putI_ne (by omega)]; exact t9
theorem Rr.pL {L : Nat} {h0 h : Hp} {b : Nat → Int} {n k : Nat} {s : Rd} (D : Rr L h0 h b n s) : Rr L h0 (putI h 352 k 1) b n (stL s k 1) := by
  obtain ⟨D0, ok9, t7, t8, t9⟩ := id D
  obtain ⟨g1, C, SM, dl, dn, db, dbr, df, da, dd, dc, dv⟩ := id D0
  refine ⟨D0.pu (by unfold regR; omega) ?_ ?_ (fun q hq => ?_) (fun q hq => ?_) (fun q hq => ?_), ok9.m_stL, ?_, ?_, ?_⟩
  · rw [putI_ne (by omega)]; exact df
  · rw [putI_ne (by omega)]; exact da
  · rw [putI_ne (by omega)]; exact dd q hq
  · rw [putI_ne (by omega)]; exact dc q hq
  · show _ = upf s.2.2.2.2.2 k 1 q
    by_cases e : q = k
    · rw [e, putI_eq, upf_eq]
    · rw [putI_ne (by omega), upf_ne e]; exact dv q hq
  · rw [putI_ne (by omega)]; exact t7
  · rw [putI_ne (by omega)]; exact t8
  · rw [putI_ne (by omega)]; exact t9
theorem Rr.pC {L : Nat} {h0 h : Hp} {b : Nat → Int} {n k : Nat} {s : Rd} (D : Rr L h0 h b n s) : Rr L h0 (putI h 351 k 1) b n (stC s k 1) := by
  obtain ⟨D0, ok9, t7, t8, t9⟩ := id D
  obtain ⟨g1, C, SM, dl, dn, db, dbr, df, da, dd, dc, dv⟩ := id D0
  refine ⟨D0.pu (by unfold regR; omega) ?_ ?_ (fun q hq => ?_) (fun q hq => ?_) (fun q hq => ?_), ok9.m_stC, ?_, ?_, ?_⟩
  · rw [putI_ne (by omega)]; exact df
  · rw [putI_ne (by omega)]; exact da
  · rw [putI_ne (by omega)]; exact dd q hq
  · show _ = upf s.2.2.2.2.1 k 1 q
    by_cases e : q = k
    · rw [e, putI_eq, upf_eq]
    · rw [putI_ne (by omega), upf_ne e]; exact dc q hq
  · rw [putI_ne (by omega)]; exact dv q hq
  · rw [putI_ne (by omega)]; exact t7
  · rw [putI_ne (by omega)]; exact t8
  · rw [putI_ne (by omega)]; exact t9
set_option maxRecDepth 8000 in
theorem c_noteAt {L : Nat} {h0 h : Hp} {b : Nat → Int} {n : Nat} {s : Rd} (D : Rr L h0 h b n s) {num w9 : Int} (hn : 1 ≤ num ∧ num ≤ 3) : RN 149 0 [some (.inr (.inr (some (347)))), some (.inl num), some (.inl w9)] [] h 0 0 (fun v h2 => Rr L h0 h2 b n (noA s num w9) ∧ v = none) := by
  have hm : mrec 149 = some nM149 := rfl
  obtain ⟨D0, ok9, t7, t8, t9⟩ := id D
  obtain ⟨g1, C, SM, dl, dn, db, dbr, df, da, dd, dc, dv⟩ := id D0
  obtain ⟨q1, q2, q3, q4, q5, q6, q7⟩ := id ok9
  obtain ⟨e1_, e2_, e3_⟩ := tez_rng (b := b) q1
  refine r_aload_n hm rfl (k := ?_)
  refine r_getI (hm := hm) (hf := rfl) (hd := rfl) (hs := (by first | assumption | exact (g1.1 _).trans rfl)) (hv := (by first | assumption | exact g1.2 _ _ _ rfl | exact db _ (by omega) | exact dd _ (by omega) | exact dc _ (by omega) | exact dv _ (by omega))) (k := ?_)
  refine r_if_ne (t := 17) hm rfl rfl (fun c4 => ?_) (fun c4 => ?_)
  · refine r_return hm rfl rfl (Nat.le_of_ble_eq_true rfl) (Nat.le_of_ble_eq_true rfl) ?_
    unfold noA
    rw [if_neg c4]
    exact ⟨D, rfl⟩
  · refine r_aload_n hm rfl (k := ?_)
    refine r_iload_n hm rfl (k := ?_)
    refine r_putI (hm := hm) (hf := rfl) (hd := rfl) (hs := (by first | assumption | exact (g1.1 _).trans rfl)) (hfin := Or.inl rfl) (hz := fun q9 => absurd q9 (by decide)) (k := ?_)
    refine r_aload_n hm rfl (k := ?_)
    refine r_iload_n hm rfl (k := ?_)
    refine r_putI (hm := hm) (hf := rfl) (hd := rfl) (hs := (by first | assumption | exact (g1.1 _).trans rfl)) (hfin := Or.inl rfl) (hz := fun q9 => absurd q9 (by decide)) (k := ?_)
    refine r_return hm rfl rfl (Nat.le_of_ble_eq_true rfl) (Nat.le_of_ble_eq_true rfl) ?_
    have f0 : s.2.1 = 0 := Decidable.not_not.mp c4
    have okN := ok9.m_noA (a := num) (w := w9) hn
    unfold noA at okN ⊢
    rw [if_pos f0] at okN ⊢
    refine ⟨⟨D0.pN, okN, ?_, ?_, ?_⟩, rfl⟩
    · rw [putI_ne (by omega), putI_ne (by omega)]; exact t7
    · rw [putI_ne (by omega), putI_ne (by omega)]; exact t8
    · rw [putI_ne (by omega), putI_ne (by omega)]; exact t9
set_option maxRecDepth 8000 in
theorem c_note {L : Nat} {h0 h : Hp} {b : Nat → Int} {n : Nat} {s : Rd} (D : Rr L h0 h b n s) {num : Int} (hn : 1 ≤ num ∧ num ≤ 3) : RN 148 0 [some (.inr (.inr (some (347)))), some (.inl num)] [] h 0 0 (fun v h2 => Rr L h0 h2 b n (nt s num) ∧ v = none) := by
  have hm : mrec 148 = some nM148 := rfl
  obtain ⟨D0, ok9, t7, t8, t9⟩ := id D
  obtain ⟨g1, C, SM, dl, dn, db, dbr, df, da, dd, dc, dv⟩ := id D0
  obtain ⟨q1, q2, q3, q4, q5, q6, q7⟩ := id ok9
  obtain ⟨e1_, e2_, e3_⟩ := tez_rng (b := b) q1
  refine r_aload_n hm rfl (k := ?_)
  refine r_iload_n hm rfl (k := ?_)
  refine r_aload_n hm rfl (k := ?_)
  refine r_getI (hm := hm) (hf := rfl) (hd := rfl) (hs := (by first | assumption | exact (g1.1 _).trans rfl)) (hv := (by first | assumption | exact g1.2 _ _ _ rfl | exact db _ (by omega) | exact dd _ (by omega) | exact dc _ (by omega) | exact dv _ (by omega))) (k := ?_)
  refine r_callv (j2 := 149) hm rfl rfl rfl rfl rfl rfl (by first | assumption | exact (g1.1 _).trans rfl) (Nat.le_of_ble_eq_true rfl) (Nat.le_of_ble_eq_true rfl) rfl ⟨Nat.le_of_ble_eq_true rfl, Nat.le_of_ble_eq_true rfl, Nat.le_of_ble_eq_true rfl, Nat.le_of_ble_eq_true rfl, Nat.le_of_ble_eq_true rfl⟩ rfl (c_noteAt D hn) (fun v9 h9 p9 => ?_)
  obtain ⟨D, e1⟩ := p9
  subst e1
  change RN 148 9 _ _ _ 0 0 _
  dsimp only [Option.toList, List.nil_append]
  refine r_return hm rfl rfl (Nat.le_of_ble_eq_true rfl) (Nat.le_of_ble_eq_true rfl) ?_
  exact ⟨D, rfl⟩
set_option maxRecDepth 8000 in
theorem c_beginClause {L : Nat} {h0 h : Hp} {b : Nat → Int} {n : Nat} {s : Rd} (D : Rr L h0 h b n s) {c : Nat} (hc : c < 4) : RN 147 0 [some (.inr (.inr (some (347)))), some (.inl (c : Int))] [] h 0 0 (fun v h2 => Rr L h0 h2 b n (bgc b n s c) ∧ v = none) := by
  have hm : mrec 147 = some nM147 := rfl
  obtain ⟨D0, ok9, t7, t8, t9⟩ := id D
  obtain ⟨g1, C, SM, dl, dn, db, dbr, df, da, dd, dc, dv⟩ := id D0
  obtain ⟨q1, q2, q3, q4, q5, q6, q7⟩ := id ok9
  obtain ⟨e1_, e2_, e3_⟩ := tez_rng (b := b) q1
  refine r_aload_n hm rfl (k := ?_)
  refine r_getR (hm := hm) (hf := rfl) (hd := rfl) (hs := (by first | assumption | exact (g1.1 _).trans rfl)) (hv := (by first | assumption | exact g1.2 _ _ _ rfl | exact db _ (by omega) | exact dd _ (by omega) | exact dc _ (by omega) | exact dv _ (by omega))) (k := ?_)
  refine r_iload_n hm rfl (k := ?_)
  refine r_bald (hm := hm) (hf := rfl) (hs := (by first | assumption | exact (g1.1 _).trans rfl)) (hkd := by decide) (kk := c) (hi := by omega) (hn := (by omega)) (hv := (by first | assumption | exact g1.2 _ _ _ rfl | exact db _ (by omega) | exact dd _ (by omega) | exact dc _ (by omega) | exact dv _ (by omega))) (k := ?_)
  refine r_if_eq (t := 14) hm rfl rfl (fun c6 => ?_) (fun c6 => ?_)
  · refine r_aload_n hm rfl (k := ?_)
    refine r_getR (hm := hm) (hf := rfl) (hd := rfl) (hs := (by first | assumption | exact (g1.1 _).trans rfl)) (hv := (by first | assumption | exact g1.2 _ _ _ rfl | exact db _ (by omega) | exact dd _ (by omega) | exact dc _ (by omega) | exact dv _ (by omega))) (k := ?_)
    refine r_iload_n hm rfl (k := ?_)
    refine r_iconst hm rfl (k := ?_)
    refine r_bast (hm := hm) (hf := rfl) (hz := by omega) (h28 := (by omega)) (hs := (by first | assumption | exact (g1.1 _).trans rfl)) (kk := c) (hi := by omega) (hn := (by omega)) (k := ?_)
    replace D := D.pC (k := c)
    obtain ⟨D0, ok9, t7, t8, t9⟩ := id D
    obtain ⟨g1, C, SM, dl, dn, db, dbr, df, da, dd, dc, dv⟩ := id D0
    obtain ⟨q1, q2, q3, q4, q5, q6, q7⟩ := id ok9
    obtain ⟨e1_, e2_, e3_⟩ := tez_rng (b := b) q1
    refine r_aload_n hm rfl (k := ?_)
    refine r_callv (j2 := 136) hm rfl rfl rfl rfl rfl rfl (by first | assumption | exact (g1.1 _).trans rfl) (Nat.le_of_ble_eq_true rfl) (Nat.le_of_ble_eq_true rfl) rfl ⟨Nat.le_of_ble_eq_true rfl, Nat.le_of_ble_eq_true rfl, Nat.le_of_ble_eq_true rfl, Nat.le_of_ble_eq_true rfl, Nat.le_of_ble_eq_true rfl⟩ rfl (c_advance D0 ok9 e2_ t9) (fun v9 h9 p9 => ?_)
    obtain ⟨D, e1⟩ := p9
    subst e1
    obtain ⟨D0, ok9, t7, t8, t9⟩ := id D
    obtain ⟨g1, C, SM, dl, dn, db, dbr, df, da, dd, dc, dv⟩ := id D0
    obtain ⟨q1, q2, q3, q4, q5, q6, q7⟩ := id ok9
    obtain ⟨e1_, e2_, e3_⟩ := tez_rng (b := b) q1
    change RN 147 25 _ _ _ 0 0 _
    dsimp only [Option.toList, List.nil_append]
    refine r_return hm rfl rfl (Nat.le_of_ble_eq_true rfl) (Nat.le_of_ble_eq_true rfl) ?_
    unfold bgc
    rw [if_neg (fun z => z c6)]
    exact ⟨D, rfl⟩
  · refine r_aload_n hm rfl (k := ?_)
    refine r_iconst hm rfl (k := ?_)
    refine r_callv (j2 := 148) hm rfl rfl rfl rfl rfl rfl (by first | assumption | exact (g1.1 _).trans rfl) (Nat.le_of_ble_eq_true rfl) (Nat.le_of_ble_eq_true rfl) rfl ⟨Nat.le_of_ble_eq_true rfl, Nat.le_of_ble_eq_true rfl, Nat.le_of_ble_eq_true rfl, Nat.le_of_ble_eq_true rfl, Nat.le_of_ble_eq_true rfl⟩ rfl (c_note D (by omega)) (fun v9 h9 p9 => ?_)
    obtain ⟨D, e1⟩ := p9
    subst e1
    obtain ⟨D0, ok9, t7, t8, t9⟩ := id D
    obtain ⟨g1, C, SM, dl, dn, db, dbr, df, da, dd, dc, dv⟩ := id D0
    obtain ⟨q1, q2, q3, q4, q5, q6, q7⟩ := id ok9
    obtain ⟨e1_, e2_, e3_⟩ := tez_rng (b := b) q1
    change RN 147 14 _ _ _ 0 0 _
    dsimp only [Option.toList, List.nil_append]
    refine r_aload_n hm rfl (k := ?_)
    refine r_getR (hm := hm) (hf := rfl) (hd := rfl) (hs := (by first | assumption | exact (g1.1 _).trans rfl)) (hv := (by first | assumption | exact g1.2 _ _ _ rfl | exact db _ (by omega) | exact dd _ (by omega) | exact dc _ (by omega) | exact dv _ (by omega))) (k := ?_)
    refine r_iload_n hm rfl (k := ?_)
    refine r_iconst hm rfl (k := ?_)
    refine r_bast (hm := hm) (hf := rfl) (hz := by omega) (h28 := (by omega)) (hs := (by first | assumption | exact (g1.1 _).trans rfl)) (kk := c) (hi := by omega) (hn := (by omega)) (k := ?_)
    replace D := D.pC (k := c)
    obtain ⟨D0, ok9, t7, t8, t9⟩ := id D
    obtain ⟨g1, C, SM, dl, dn, db, dbr, df, da, dd, dc, dv⟩ := id D0
    obtain ⟨q1, q2, q3, q4, q5, q6, q7⟩ := id ok9
    obtain ⟨e1_, e2_, e3_⟩ := tez_rng (b := b) q1
    refine r_aload_n hm rfl (k := ?_)
    refine r_callv (j2 := 136) hm rfl rfl rfl rfl rfl rfl (by first | assumption | exact (g1.1 _).trans rfl) (Nat.le_of_ble_eq_true rfl) (Nat.le_of_ble_eq_true rfl) rfl ⟨Nat.le_of_ble_eq_true rfl, Nat.le_of_ble_eq_true rfl, Nat.le_of_ble_eq_true rfl, Nat.le_of_ble_eq_true rfl, Nat.le_of_ble_eq_true rfl⟩ rfl (c_advance D0 ok9 e2_ t9) (fun v9 h9 p9 => ?_)
    obtain ⟨D, e1⟩ := p9
    subst e1
    obtain ⟨D0, ok9, t7, t8, t9⟩ := id D
    obtain ⟨g1, C, SM, dl, dn, db, dbr, df, da, dd, dc, dv⟩ := id D0
    obtain ⟨q1, q2, q3, q4, q5, q6, q7⟩ := id ok9
    obtain ⟨e1_, e2_, e3_⟩ := tez_rng (b := b) q1
    change RN 147 25 _ _ _ 0 0 _
    dsimp only [Option.toList, List.nil_append]
    refine r_return hm rfl rfl (Nat.le_of_ble_eq_true rfl) (Nat.le_of_ble_eq_true rfl) ?_
    unfold bgc
    rw [if_pos c6]
    exact ⟨D, rfl⟩
set_option maxRecDepth 8000 in
theorem c_valueOf {L : Nat} {h0 h : Hp} {b : Nat → Int} {n : Nat} {s : Rd} (D : Rr L h0 h b n s) (h2_ : tez b n s.1 - s.1 ≤ 2) : RN 151 0 [some (.inr (.inr (some (347)))), none, none] [] h 0 0 (fun v h2 => h2 = h ∧ v = some (.inl (vlN b (tez b n s.1 - s.1) s.1 0))) := by
  have hm : mrec 151 = some nM151 := rfl
  obtain ⟨D0, ok9, t7, t8, t9⟩ := id D
  obtain ⟨g1, C, SM, dl, dn, db, dbr, df, da, dd, dc, dv⟩ := id D0
  obtain ⟨q1, q2, q3, q4, q5, q6, q7⟩ := id ok9
  obtain ⟨e1_, e2_, e3_⟩ := tez_rng (b := b) q1
  refine r_iconst hm rfl (k := ?_)
  refine r_istore_n hm rfl (k := ?_)
  refine r_aload_n hm rfl (k := ?_)
  refine r_getI (hm := hm) (hf := rfl) (hd := rfl) (hs := (by first | assumption | exact (g1.1 _).trans rfl)) (hv := (by first | assumption | exact g1.2 _ _ _ rfl | exact db _ (by omega) | exact dd _ (by omega) | exact dc _ (by omega) | exact dv _ (by omega))) (k := ?_)
  refine r_istore_n hm rfl (k := ?_)
  suffices LP : ∀ (d p : Nat) (y : Int), p + d = tez b n s.1 → d ≤ 2 → (d = 2 → y = 0) → (d = 1 → -48 ≤ y ∧ y ≤ 207) → vlN b d p y = vlN b (tez b n s.1 - s.1) s.1 0 → RN 151 7 [some (.inr (.inr (some (347)))), some (.inl y), some (.inl (p : Int))] [] h 0 0 (fun v h2 => h2 = h ∧ v = some (.inl (vlN b (tez b n s.1 - s.1) s.1 0))) from LP (tez b n s.1 - s.1) s.1 0 (by omega) h2_ (fun _ => rfl) (fun _ => by omega) rfl
  refine fun d => Nat.strongRecOn d (fun d ih => ?_)
  intro p y hd d2 y2 y1 ev
  refine r_iload_n hm rfl (k := ?_)
  refine r_aload_n hm rfl (k := ?_)
  refine r_getI (hm := hm) (hf := rfl) (hd := rfl) (hs := (by first | assumption | exact (g1.1 _).trans rfl)) (hv := (by first | assumption | exact g1.2 _ _ _ rfl | exact db _ (by omega) | exact dd _ (by omega) | exact dc _ (by omega) | exact dv _ (by omega))) (k := ?_)
  refine r_icmp_ge (t := 36) hm rfl rfl (fun c12 => ?_) (fun c12 => ?_)
  · refine r_iload_n hm rfl (k := ?_)
    refine r_ireturn hm rfl rfl (by rfl) (Nat.le_of_ble_eq_true rfl) (Nat.le_of_ble_eq_true rfl) ?_
    have d0 : d = 0 := by omega
    subst d0
    exact ⟨rfl, by rw [← ev]; rfl⟩
  · have bp9 := dbr p (by omega)
    refine r_iload_n hm rfl (k := ?_)
    refine r_bipush hm rfl (k := ?_)
    refine r_imul hm rfl (hr := (by omega)) (k := ?_)
    refine r_aload_n hm rfl (k := ?_)
    refine r_getR (hm := hm) (hf := rfl) (hd := rfl) (hs := (by first | assumption | exact (g1.1 _).trans rfl)) (hv := (by first | assumption | exact g1.2 _ _ _ rfl | exact db _ (by omega) | exact dd _ (by omega) | exact dc _ (by omega) | exact dv _ (by omega))) (k := ?_)
    refine r_iload_n hm rfl (k := ?_)
    refine r_iald (hm := hm) (hf := rfl) (hs := (by first | assumption | exact (g1.1 _).trans rfl)) (kk := p) (hi := by omega) (hn := (by omega)) (hv := (by first | assumption | exact g1.2 _ _ _ rfl | exact db _ (by omega) | exact dd _ (by omega) | exact dc _ (by omega) | exact dv _ (by omega))) (k := ?_)
    refine r_iadd hm rfl (hr := (by omega)) (k := ?_)
    refine r_bipush hm rfl (k := ?_)
    refine r_isub hm rfl (hr := (by omega)) (k := ?_)
    refine r_istore_n hm rfl (k := ?_)
    refine r_iinc hm rfl (hr := (by omega)) (k := ?_)
    refine r_goto (t := 7) hm rfl (k := ?_)
    have bp := dbr p (by omega)
    refine ih (d - 1) (by omega) (p + 1) _ (by omega) (by omega) (fun z => by omega) (fun z => by have := y2 (by omega); omega) ?_
    rw [← ev]
    obtain ⟨d', rfl⟩ : ∃ d', d = d' + 1 := ⟨d - 1, by omega⟩
    rfl
set_option maxRecDepth 8000 in
theorem c_takeNumber {L : Nat} {h0 h : Hp} {b : Nat → Int} {n : Nat} {s : Rd} (D : Rr L h0 h b n s) {lo hi : Int} (hl : 0 ≤ lo ∧ hi ≤ 100) : RN 150 0 [some (.inr (.inr (some (347)))), some (.inl lo), some (.inl hi), none] [] h 0 0 (fun v h2 => Rr L h0 h2 b n ((tnm b n s lo hi).1) ∧ v = some (.inl ((tnm b n s lo hi).2))) := by
  have hm : mrec 150 = some nM150 := rfl
  obtain ⟨D0, ok9, t7, t8, t9⟩ := id D
  obtain ⟨g1, C, SM, dl, dn, db, dbr, df, da, dd, dc, dv⟩ := id D0
  obtain ⟨q1, q2, q3, q4, q5, q6, q7⟩ := id ok9
  obtain ⟨e1_, e2_, e3_⟩ := tez_rng (b := b) q1
  refine r_aload_n hm rfl (k := ?_)
  refine r_getI (hm := hm) (hf := rfl) (hd := rfl) (hs := (by first | assumption | exact (g1.1 _).trans rfl)) (hv := (by first | assumption | exact g1.2 _ _ _ rfl | exact db _ (by omega) | exact dd _ (by omega) | exact dc _ (by omega) | exact dv _ (by omega))) (k := ?_)
  refine r_iconst hm rfl (k := ?_)
  refine r_icmp_eq (t := 15) hm rfl rfl (fun c5 => ?_) (fun c5 => ?_)
  · refine r_aload_n hm rfl (k := ?_)
    refine r_getI (hm := hm) (hf := rfl) (hd := rfl) (hs := (by first | assumption | exact (g1.1 _).trans rfl)) (hv := (by first | assumption | exact g1.2 _ _ _ rfl | exact db _ (by omega) | exact dd _ (by omega) | exact dc _ (by omega) | exact dv _ (by omega))) (k := ?_)
    refine r_aload_n hm rfl (k := ?_)
    refine r_getI (hm := hm) (hf := rfl) (hd := rfl) (hs := (by first | assumption | exact (g1.1 _).trans rfl)) (hv := (by first | assumption | exact g1.2 _ _ _ rfl | exact db _ (by omega) | exact dd _ (by omega) | exact dc _ (by omega) | exact dv _ (by omega))) (k := ?_)
    refine r_isub hm rfl (hr := (by omega)) (k := ?_)
    refine r_iconst hm rfl (k := ?_)
    refine r_icmp_le (t := 32) hm rfl rfl (fun c25 => ?_) (fun c25 => ?_)
    · refine r_aload_n hm rfl (k := ?_)
      refine r_callv (j2 := 151) hm rfl rfl rfl rfl rfl rfl (by first | assumption | exact (g1.1 _).trans rfl) (Nat.le_of_ble_eq_true rfl) (Nat.le_of_ble_eq_true rfl) rfl ⟨Nat.le_of_ble_eq_true rfl, Nat.le_of_ble_eq_true rfl, Nat.le_of_ble_eq_true rfl, Nat.le_of_ble_eq_true rfl, Nat.le_of_ble_eq_true rfl⟩ rfl (c_valueOf D (by omega)) (fun v9 h9 p9 => ?_)
      obtain ⟨e1, e2⟩ := p9
      subst e2
      replace e1 := e1.symm
      subst e1
      change RN 150 36 _ _ _ 0 0 _
      dsimp only [Option.toList, List.cons_append, List.nil_append]
      refine r_istore_n hm rfl (k := ?_)
      refine r_iload_n hm rfl (k := ?_)
      refine r_iload_n hm rfl (k := ?_)
      refine r_icmp_lt (t := 47) hm rfl rfl (fun c39 => ?_) (fun c39 => ?_)
      · refine r_aload_n hm rfl (k := ?_)
        refine r_iconst hm rfl (k := ?_)
        refine r_callv (j2 := 148) hm rfl rfl rfl rfl rfl rfl (by first | assumption | exact (g1.1 _).trans rfl) (Nat.le_of_ble_eq_true rfl) (Nat.le_of_ble_eq_true rfl) rfl ⟨Nat.le_of_ble_eq_true rfl, Nat.le_of_ble_eq_true rfl, Nat.le_of_ble_eq_true rfl, Nat.le_of_ble_eq_true rfl, Nat.le_of_ble_eq_true rfl⟩ rfl (c_note D (by omega)) (fun v9 h9 p9 => ?_)
        obtain ⟨D, e1⟩ := p9
        subst e1
        obtain ⟨D0, ok9, t7, t8, t9⟩ := id D
        obtain ⟨g1, C, SM, dl, dn, db, dbr, df, da, dd, dc, dv⟩ := id D0
        obtain ⟨q1, q2, q3, q4, q5, q6, q7⟩ := id ok9
        obtain ⟨e1_, e2_, e3_⟩ := tez_rng (b := b) q1
        change RN 150 52 _ _ _ 0 0 _
        dsimp only [Option.toList, List.nil_append]
        refine r_iload_n hm rfl (k := ?_)
        refine r_ireturn hm rfl rfl (by rfl) (Nat.le_of_ble_eq_true rfl) (Nat.le_of_ble_eq_true rfl) ?_
        have ev : vl b n s.1 = vlN b (tez b n s.1 - s.1) s.1 0 := by unfold vl; rw [if_neg (by omega)]
        unfold tnm
        rw [if_neg (fun z => z c5), if_pos (by omega)]
        exact ⟨D, rfl⟩
      · refine r_iload_n hm rfl (k := ?_)
        refine r_iload_n hm rfl (k := ?_)
        refine r_icmp_le (t := 54) hm rfl rfl (fun c44 => ?_) (fun c44 => ?_)
        · refine r_aload_n hm rfl (k := ?_)
          refine r_callv (j2 := 136) hm rfl rfl rfl rfl rfl rfl (by first | assumption | exact (g1.1 _).trans rfl) (Nat.le_of_ble_eq_true rfl) (Nat.le_of_ble_eq_true rfl) rfl ⟨Nat.le_of_ble_eq_true rfl, Nat.le_of_ble_eq_true rfl, Nat.le_of_ble_eq_true rfl, Nat.le_of_ble_eq_true rfl, Nat.le_of_ble_eq_true rfl⟩ rfl (c_advance D0 ok9 e2_ t9) (fun v9 h9 p9 => ?_)
          obtain ⟨D, e1⟩ := p9
          subst e1
          obtain ⟨D0, ok9, t7, t8, t9⟩ := id D
          obtain ⟨g1, C, SM, dl, dn, db, dbr, df, da, dd, dc, dv⟩ := id D0
          obtain ⟨q1, q2, q3, q4, q5, q6, q7⟩ := id ok9
          obtain ⟨e1_, e2_, e3_⟩ := tez_rng (b := b) q1
          change RN 150 58 _ _ _ 0 0 _
          dsimp only [Option.toList, List.nil_append]
          refine r_iload_n hm rfl (k := ?_)
          refine r_ireturn hm rfl rfl (by rfl) (Nat.le_of_ble_eq_true rfl) (Nat.le_of_ble_eq_true rfl) ?_
          have ev : vl b n s.1 = vlN b (tez b n s.1 - s.1) s.1 0 := by unfold vl; rw [if_neg (by omega)]
          unfold tnm
          rw [if_neg (fun z => z c5), if_neg (by omega)]
          exact ⟨D, by rw [ev]⟩
        · refine r_aload_n hm rfl (k := ?_)
          refine r_iconst hm rfl (k := ?_)
          refine r_callv (j2 := 148) hm rfl rfl rfl rfl rfl rfl (by first | assumption | exact (g1.1 _).trans rfl) (Nat.le_of_ble_eq_true rfl) (Nat.le_of_ble_eq_true rfl) rfl ⟨Nat.le_of_ble_eq_true rfl, Nat.le_of_ble_eq_true rfl, Nat.le_of_ble_eq_true rfl, Nat.le_of_ble_eq_true rfl, Nat.le_of_ble_eq_true rfl⟩ rfl (c_note D (by omega)) (fun v9 h9 p9 => ?_)
          obtain ⟨D, e1⟩ := p9
          subst e1
          obtain ⟨D0, ok9, t7, t8, t9⟩ := id D
          obtain ⟨g1, C, SM, dl, dn, db, dbr, df, da, dd, dc, dv⟩ := id D0
          obtain ⟨q1, q2, q3, q4, q5, q6, q7⟩ := id ok9
          obtain ⟨e1_, e2_, e3_⟩ := tez_rng (b := b) q1
          change RN 150 52 _ _ _ 0 0 _
          dsimp only [Option.toList, List.nil_append]
          refine r_iload_n hm rfl (k := ?_)
          refine r_ireturn hm rfl rfl (by rfl) (Nat.le_of_ble_eq_true rfl) (Nat.le_of_ble_eq_true rfl) ?_
          have ev : vl b n s.1 = vlN b (tez b n s.1 - s.1) s.1 0 := by unfold vl; rw [if_neg (by omega)]
          unfold tnm
          rw [if_neg (fun z => z c5), if_pos (by omega)]
          exact ⟨D, rfl⟩
    · refine r_iconst hm rfl (k := ?_)
      refine r_goto (t := 36) hm rfl (k := ?_)
      refine r_istore_n hm rfl (k := ?_)
      refine r_iload_n hm rfl (k := ?_)
      refine r_iload_n hm rfl (k := ?_)
      refine r_icmp_lt (t := 47) hm rfl rfl (fun c39 => ?_) (fun c39 => ?_)
      · refine r_aload_n hm rfl (k := ?_)
        refine r_iconst hm rfl (k := ?_)
        refine r_callv (j2 := 148) hm rfl rfl rfl rfl rfl rfl (by first | assumption | exact (g1.1 _).trans rfl) (Nat.le_of_ble_eq_true rfl) (Nat.le_of_ble_eq_true rfl) rfl ⟨Nat.le_of_ble_eq_true rfl, Nat.le_of_ble_eq_true rfl, Nat.le_of_ble_eq_true rfl, Nat.le_of_ble_eq_true rfl, Nat.le_of_ble_eq_true rfl⟩ rfl (c_note D (by omega)) (fun v9 h9 p9 => ?_)
        obtain ⟨D, e1⟩ := p9
        subst e1
        obtain ⟨D0, ok9, t7, t8, t9⟩ := id D
        obtain ⟨g1, C, SM, dl, dn, db, dbr, df, da, dd, dc, dv⟩ := id D0
        obtain ⟨q1, q2, q3, q4, q5, q6, q7⟩ := id ok9
        obtain ⟨e1_, e2_, e3_⟩ := tez_rng (b := b) q1
        change RN 150 52 _ _ _ 0 0 _
        dsimp only [Option.toList, List.nil_append]
        refine r_iload_n hm rfl (k := ?_)
        refine r_ireturn hm rfl rfl (by rfl) (Nat.le_of_ble_eq_true rfl) (Nat.le_of_ble_eq_true rfl) ?_
        have ev : vl b n s.1 = -1 := by unfold vl; rw [if_pos (by omega)]
        unfold tnm
        rw [if_neg (fun z => z c5), if_pos (by omega)]
        exact ⟨D, rfl⟩
      · refine r_iload_n hm rfl (k := ?_)
        refine r_iload_n hm rfl (k := ?_)
        refine r_icmp_le (t := 54) hm rfl rfl (fun c44 => ?_) (fun c44 => ?_)
        · refine r_aload_n hm rfl (k := ?_)
          refine r_callv (j2 := 136) hm rfl rfl rfl rfl rfl rfl (by first | assumption | exact (g1.1 _).trans rfl) (Nat.le_of_ble_eq_true rfl) (Nat.le_of_ble_eq_true rfl) rfl ⟨Nat.le_of_ble_eq_true rfl, Nat.le_of_ble_eq_true rfl, Nat.le_of_ble_eq_true rfl, Nat.le_of_ble_eq_true rfl, Nat.le_of_ble_eq_true rfl⟩ rfl (c_advance D0 ok9 e2_ t9) (fun v9 h9 p9 => ?_)
          obtain ⟨D, e1⟩ := p9
          subst e1
          obtain ⟨D0, ok9, t7, t8, t9⟩ := id D
          obtain ⟨g1, C, SM, dl, dn, db, dbr, df, da, dd, dc, dv⟩ := id D0
          obtain ⟨q1, q2, q3, q4, q5, q6, q7⟩ := id ok9
          obtain ⟨e1_, e2_, e3_⟩ := tez_rng (b := b) q1
          change RN 150 58 _ _ _ 0 0 _
          dsimp only [Option.toList, List.nil_append]
          refine r_iload_n hm rfl (k := ?_)
          refine r_ireturn hm rfl rfl (by rfl) (Nat.le_of_ble_eq_true rfl) (Nat.le_of_ble_eq_true rfl) ?_
          have ev : vl b n s.1 = -1 := by unfold vl; rw [if_pos (by omega)]
          unfold tnm
          rw [if_neg (fun z => z c5), if_neg (by omega)]
          exact ⟨D, by rw [ev]⟩
        · refine r_aload_n hm rfl (k := ?_)
          refine r_iconst hm rfl (k := ?_)
          refine r_callv (j2 := 148) hm rfl rfl rfl rfl rfl rfl (by first | assumption | exact (g1.1 _).trans rfl) (Nat.le_of_ble_eq_true rfl) (Nat.le_of_ble_eq_true rfl) rfl ⟨Nat.le_of_ble_eq_true rfl, Nat.le_of_ble_eq_true rfl, Nat.le_of_ble_eq_true rfl, Nat.le_of_ble_eq_true rfl, Nat.le_of_ble_eq_true rfl⟩ rfl (c_note D (by omega)) (fun v9 h9 p9 => ?_)
          obtain ⟨D, e1⟩ := p9
          subst e1
          obtain ⟨D0, ok9, t7, t8, t9⟩ := id D
          obtain ⟨g1, C, SM, dl, dn, db, dbr, df, da, dd, dc, dv⟩ := id D0
          obtain ⟨q1, q2, q3, q4, q5, q6, q7⟩ := id ok9
          obtain ⟨e1_, e2_, e3_⟩ := tez_rng (b := b) q1
          change RN 150 52 _ _ _ 0 0 _
          dsimp only [Option.toList, List.nil_append]
          refine r_iload_n hm rfl (k := ?_)
          refine r_ireturn hm rfl rfl (by rfl) (Nat.le_of_ble_eq_true rfl) (Nat.le_of_ble_eq_true rfl) ?_
          have ev : vl b n s.1 = -1 := by unfold vl; rw [if_pos (by omega)]
          unfold tnm
          rw [if_neg (fun z => z c5), if_pos (by omega)]
          exact ⟨D, rfl⟩
  · refine r_aload_n hm rfl (k := ?_)
    refine r_iconst hm rfl (k := ?_)
    refine r_callv (j2 := 148) hm rfl rfl rfl rfl rfl rfl (by first | assumption | exact (g1.1 _).trans rfl) (Nat.le_of_ble_eq_true rfl) (Nat.le_of_ble_eq_true rfl) rfl ⟨Nat.le_of_ble_eq_true rfl, Nat.le_of_ble_eq_true rfl, Nat.le_of_ble_eq_true rfl, Nat.le_of_ble_eq_true rfl, Nat.le_of_ble_eq_true rfl⟩ rfl (c_note D (by omega)) (fun v9 h9 p9 => ?_)
    obtain ⟨D, e1⟩ := p9
    subst e1
    obtain ⟨D0, ok9, t7, t8, t9⟩ := id D
    obtain ⟨g1, C, SM, dl, dn, db, dbr, df, da, dd, dc, dv⟩ := id D0
    obtain ⟨q1, q2, q3, q4, q5, q6, q7⟩ := id ok9
    obtain ⟨e1_, e2_, e3_⟩ := tez_rng (b := b) q1
    change RN 150 13 _ _ _ 0 0 _
    dsimp only [Option.toList, List.nil_append]
    refine r_iload_n hm rfl (k := ?_)
    refine r_ireturn hm rfl rfl (by rfl) (Nat.le_of_ble_eq_true rfl) (Nat.le_of_ble_eq_true rfl) ?_
    unfold tnm
    rw [if_pos c5]
    exact ⟨D, rfl⟩
set_option maxRecDepth 8000 in
theorem c_takeWord {L : Nat} {h0 h : Hp} {b : Nat → Int} {n : Nat} {s : Rd} (D : Rr L h0 h b n s) {i : Nat} (hi : i < 12) : RN 152 0 [some (.inr (.inr (some (347)))), some (.inr (.inr (some (3 + i))))] [] h 0 0 (fun v h2 => Rr L h0 h2 b n (twd b n s i) ∧ v = none) := by
  have hm : mrec 152 = some nM152 := rfl
  obtain ⟨D0, ok9, t7, t8, t9⟩ := id D
  obtain ⟨g1, C, SM, dl, dn, db, dbr, df, da, dd, dc, dv⟩ := id D0
  obtain ⟨q1, q2, q3, q4, q5, q6, q7⟩ := id ok9
  obtain ⟨e1_, e2_, e3_⟩ := tez_rng (b := b) q1
  refine r_aload_n hm rfl (k := ?_)
  refine r_aload_n hm rfl (k := ?_)
  refine r_callv (j2 := 139) hm rfl rfl rfl rfl rfl rfl (by first | assumption | exact (g1.1 _).trans rfl) (Nat.le_of_ble_eq_true rfl) (Nat.le_of_ble_eq_true rfl) rfl ⟨Nat.le_of_ble_eq_true rfl, Nat.le_of_ble_eq_true rfl, Nat.le_of_ble_eq_true rfl, Nat.le_of_ble_eq_true rfl, Nat.le_of_ble_eq_true rfl⟩ rfl (c_isWord D hi) (fun v9 h9 p9 => ?_)
  obtain ⟨e1, e2⟩ := p9
  subst e2
  replace e1 := e1.symm
  subst e1
  change RN 152 5 _ _ _ 0 0 _
  dsimp only [Option.toList, List.cons_append, List.nil_append]
  refine r_if_ne (t := 14) hm rfl rfl (fun c5 => ?_) (fun c5 => ?_)
  · refine r_aload_n hm rfl (k := ?_)
    refine r_callv (j2 := 136) hm rfl rfl rfl rfl rfl rfl (by first | assumption | exact (g1.1 _).trans rfl) (Nat.le_of_ble_eq_true rfl) (Nat.le_of_ble_eq_true rfl) rfl ⟨Nat.le_of_ble_eq_true rfl, Nat.le_of_ble_eq_true rfl, Nat.le_of_ble_eq_true rfl, Nat.le_of_ble_eq_true rfl, Nat.le_of_ble_eq_true rfl⟩ rfl (c_advance D0 ok9 e2_ t9) (fun v9 h9 p9 => ?_)
    obtain ⟨D, e1⟩ := p9
    subst e1
    obtain ⟨D0, ok9, t7, t8, t9⟩ := id D
    obtain ⟨g1, C, SM, dl, dn, db, dbr, df, da, dd, dc, dv⟩ := id D0
    obtain ⟨q1, q2, q3, q4, q5, q6, q7⟩ := id ok9
    obtain ⟨e1_, e2_, e3_⟩ := tez_rng (b := b) q1
    change RN 152 18 _ _ _ 0 0 _
    dsimp only [Option.toList, List.nil_append]
    refine r_return hm rfl rfl (Nat.le_of_ble_eq_true rfl) (Nat.le_of_ble_eq_true rfl) ?_
    have w5 := bw1.mp c5
    unfold twd
    rw [if_pos w5]
    exact ⟨D, rfl⟩
  · refine r_aload_n hm rfl (k := ?_)
    refine r_iconst hm rfl (k := ?_)
    refine r_callv (j2 := 148) hm rfl rfl rfl rfl rfl rfl (by first | assumption | exact (g1.1 _).trans rfl) (Nat.le_of_ble_eq_true rfl) (Nat.le_of_ble_eq_true rfl) rfl ⟨Nat.le_of_ble_eq_true rfl, Nat.le_of_ble_eq_true rfl, Nat.le_of_ble_eq_true rfl, Nat.le_of_ble_eq_true rfl, Nat.le_of_ble_eq_true rfl⟩ rfl (c_note D (by omega)) (fun v9 h9 p9 => ?_)
    obtain ⟨D, e1⟩ := p9
    subst e1
    obtain ⟨D0, ok9, t7, t8, t9⟩ := id D
    obtain ⟨g1, C, SM, dl, dn, db, dbr, df, da, dd, dc, dv⟩ := id D0
    obtain ⟨q1, q2, q3, q4, q5, q6, q7⟩ := id ok9
    obtain ⟨e1_, e2_, e3_⟩ := tez_rng (b := b) q1
    change RN 152 13 _ _ _ 0 0 _
    dsimp only [Option.toList, List.nil_append]
    refine r_return hm rfl rfl (Nat.le_of_ble_eq_true rfl) (Nat.le_of_ble_eq_true rfl) ?_
    have w5 := bw0.mp (Decidable.not_not.mp c5)
    unfold twd
    rw [if_neg (by rw [w5]; decide)]
    exact ⟨D, rfl⟩
set_option maxRecDepth 8000 in
theorem c_takeChoice {L : Nat} {h0 h : Hp} {b : Nat → Int} {n : Nat} {s : Rd} (D : Rr L h0 h b n s) {i : Nat} (hi : i < 12) : RN 155 0 [some (.inr (.inr (some (347)))), some (.inr (.inr (some (3 + i))))] [] h 0 0 (fun v h2 => Rr L h0 h2 b n ((tch b n s i).1) ∧ v = some (.inl ((tch b n s i).2))) := by
  have hm : mrec 155 = some nM155 := rfl
  obtain ⟨D0, ok9, t7, t8, t9⟩ := id D
  obtain ⟨g1, C, SM, dl, dn, db, dbr, df, da, dd, dc, dv⟩ := id D0
  obtain ⟨q1, q2, q3, q4, q5, q6, q7⟩ := id ok9
  obtain ⟨e1_, e2_, e3_⟩ := tez_rng (b := b) q1
  refine r_aload_n hm rfl (k := ?_)
  refine r_aload_n hm rfl (k := ?_)
  refine r_callv (j2 := 139) hm rfl rfl rfl rfl rfl rfl (by first | assumption | exact (g1.1 _).trans rfl) (Nat.le_of_ble_eq_true rfl) (Nat.le_of_ble_eq_true rfl) rfl ⟨Nat.le_of_ble_eq_true rfl, Nat.le_of_ble_eq_true rfl, Nat.le_of_ble_eq_true rfl, Nat.le_of_ble_eq_true rfl, Nat.le_of_ble_eq_true rfl⟩ rfl (c_isWord D hi) (fun v9 h9 p9 => ?_)
  obtain ⟨e1, e2⟩ := p9
  subst e2
  replace e1 := e1.symm
  subst e1
  change RN 155 5 _ _ _ 0 0 _
  dsimp only [Option.toList, List.cons_append, List.nil_append]
  refine r_if_eq (t := 14) hm rfl rfl (fun c5 => ?_) (fun c5 => ?_)
  · refine r_aload_n hm rfl (k := ?_)
    refine r_ldc hm rfl rfl (hd := rfl) (k := ?_)
    refine r_callv (j2 := 152) hm rfl rfl rfl rfl rfl rfl (by first | assumption | exact (g1.1 _).trans rfl) (Nat.le_of_ble_eq_true rfl) (Nat.le_of_ble_eq_true rfl) rfl ⟨Nat.le_of_ble_eq_true rfl, Nat.le_of_ble_eq_true rfl, Nat.le_of_ble_eq_true rfl, Nat.le_of_ble_eq_true rfl, Nat.le_of_ble_eq_true rfl⟩ rfl (c_takeWord D (i := 9) (by omega)) (fun v9 h9 p9 => ?_)
    obtain ⟨D, e1⟩ := p9
    subst e1
    obtain ⟨D0, ok9, t7, t8, t9⟩ := id D
    obtain ⟨g1, C, SM, dl, dn, db, dbr, df, da, dd, dc, dv⟩ := id D0
    obtain ⟨q1, q2, q3, q4, q5, q6, q7⟩ := id ok9
    obtain ⟨e1_, e2_, e3_⟩ := tez_rng (b := b) q1
    change RN 155 20 _ _ _ 0 0 _
    dsimp only [Option.toList, List.nil_append]
    refine r_iconst hm rfl (k := ?_)
    refine r_ireturn hm rfl rfl (by rfl) (Nat.le_of_ble_eq_true rfl) (Nat.le_of_ble_eq_true rfl) ?_
    have w5 := bw0.mp c5
    unfold tch
    rw [if_neg (by rw [w5]; decide)]
    exact ⟨D, rfl⟩
  · refine r_aload_n hm rfl (k := ?_)
    refine r_callv (j2 := 136) hm rfl rfl rfl rfl rfl rfl (by first | assumption | exact (g1.1 _).trans rfl) (Nat.le_of_ble_eq_true rfl) (Nat.le_of_ble_eq_true rfl) rfl ⟨Nat.le_of_ble_eq_true rfl, Nat.le_of_ble_eq_true rfl, Nat.le_of_ble_eq_true rfl, Nat.le_of_ble_eq_true rfl, Nat.le_of_ble_eq_true rfl⟩ rfl (c_advance D0 ok9 e2_ t9) (fun v9 h9 p9 => ?_)
    obtain ⟨D, e1⟩ := p9
    subst e1
    obtain ⟨D0, ok9, t7, t8, t9⟩ := id D
    obtain ⟨g1, C, SM, dl, dn, db, dbr, df, da, dd, dc, dv⟩ := id D0
    obtain ⟨q1, q2, q3, q4, q5, q6, q7⟩ := id ok9
    obtain ⟨e1_, e2_, e3_⟩ := tez_rng (b := b) q1
    change RN 155 12 _ _ _ 0 0 _
    dsimp only [Option.toList, List.nil_append]
    refine r_iconst hm rfl (k := ?_)
    refine r_ireturn hm rfl rfl (by rfl) (Nat.le_of_ble_eq_true rfl) (Nat.le_of_ble_eq_true rfl) ?_
    have w5 := bw1.mp c5
    unfold tch
    rw [if_pos w5]
    exact ⟨D, rfl⟩
set_option maxRecDepth 8000 in
theorem c_formHere {L : Nat} {h0 h : Hp} {b : Nat → Int} {n : Nat} {s : Rd} (D : Rr L h0 h b n s) : RN 154 0 [some (.inr (.inr (some (347))))] [] h 0 0 (fun v h2 => Rr L h0 h2 b n ((frm b n s).1) ∧ v = some (.inl ((frm b n s).2))) := by
  have hm : mrec 154 = some nM154 := rfl
  obtain ⟨D0, ok9, t7, t8, t9⟩ := id D
  obtain ⟨g1, C, SM, dl, dn, db, dbr, df, da, dd, dc, dv⟩ := id D0
  obtain ⟨q1, q2, q3, q4, q5, q6, q7⟩ := id ok9
  obtain ⟨e1_, e2_, e3_⟩ := tez_rng (b := b) q1
  refine r_aload_n hm rfl (k := ?_)
  refine r_ldc hm rfl rfl (hd := rfl) (k := ?_)
  refine r_callv (j2 := 139) hm rfl rfl rfl rfl rfl rfl (by first | assumption | exact (g1.1 _).trans rfl) (Nat.le_of_ble_eq_true rfl) (Nat.le_of_ble_eq_true rfl) rfl ⟨Nat.le_of_ble_eq_true rfl, Nat.le_of_ble_eq_true rfl, Nat.le_of_ble_eq_true rfl, Nat.le_of_ble_eq_true rfl, Nat.le_of_ble_eq_true rfl⟩ rfl (c_isWord D (i := 10) (by omega)) (fun v9 h9 p9 => ?_)
  obtain ⟨e1, e2⟩ := p9
  subst e2
  replace e1 := e1.symm
  subst e1
  change RN 154 6 _ _ _ 0 0 _
  dsimp only [Option.toList, List.cons_append, List.nil_append]
  refine r_if_eq (t := 11) hm rfl rfl (fun c6 => ?_) (fun c6 => ?_)
  · refine r_aload_n hm rfl (k := ?_)
    refine r_ldc hm rfl rfl (hd := rfl) (k := ?_)
    refine r_callv (j2 := 139) hm rfl rfl rfl rfl rfl rfl (by first | assumption | exact (g1.1 _).trans rfl) (Nat.le_of_ble_eq_true rfl) (Nat.le_of_ble_eq_true rfl) rfl ⟨Nat.le_of_ble_eq_true rfl, Nat.le_of_ble_eq_true rfl, Nat.le_of_ble_eq_true rfl, Nat.le_of_ble_eq_true rfl, Nat.le_of_ble_eq_true rfl⟩ rfl (c_isWord D (i := 11) (by omega)) (fun v9 h9 p9 => ?_)
    obtain ⟨e1, e2⟩ := p9
    subst e2
    replace e1 := e1.symm
    subst e1
    change RN 154 17 _ _ _ 0 0 _
    dsimp only [Option.toList, List.cons_append, List.nil_append]
    refine r_if_eq (t := 22) hm rfl rfl (fun c17 => ?_) (fun c17 => ?_)
    · refine r_aload_n hm rfl (k := ?_)
      refine r_ldc hm rfl rfl (hd := rfl) (k := ?_)
      refine r_callv (j2 := 139) hm rfl rfl rfl rfl rfl rfl (by first | assumption | exact (g1.1 _).trans rfl) (Nat.le_of_ble_eq_true rfl) (Nat.le_of_ble_eq_true rfl) rfl ⟨Nat.le_of_ble_eq_true rfl, Nat.le_of_ble_eq_true rfl, Nat.le_of_ble_eq_true rfl, Nat.le_of_ble_eq_true rfl, Nat.le_of_ble_eq_true rfl⟩ rfl (c_isWord D (i := 3) (by omega)) (fun v9 h9 p9 => ?_)
      obtain ⟨e1, e2⟩ := p9
      subst e2
      replace e1 := e1.symm
      subst e1
      change RN 154 28 _ _ _ 0 0 _
      dsimp only [Option.toList, List.cons_append, List.nil_append]
      refine r_if_ne (t := 36) hm rfl rfl (fun c28 => ?_) (fun c28 => ?_)
      · refine r_iconst hm rfl (k := ?_)
        refine r_ireturn hm rfl rfl (by rfl) (Nat.le_of_ble_eq_true rfl) (Nat.le_of_ble_eq_true rfl) ?_
        have w6 := bw0.mp c6
        have w17 := bw0.mp c17
        have w28 := bw1.mp c28
        unfold frm
        rw [if_neg (by rw [w6]; decide), if_neg (by rw [w17]; decide), if_pos w28]
        exact ⟨D, rfl⟩
      · refine r_aload_n hm rfl (k := ?_)
        refine r_iconst hm rfl (k := ?_)
        refine r_callv (j2 := 148) hm rfl rfl rfl rfl rfl rfl (by first | assumption | exact (g1.1 _).trans rfl) (Nat.le_of_ble_eq_true rfl) (Nat.le_of_ble_eq_true rfl) rfl ⟨Nat.le_of_ble_eq_true rfl, Nat.le_of_ble_eq_true rfl, Nat.le_of_ble_eq_true rfl, Nat.le_of_ble_eq_true rfl, Nat.le_of_ble_eq_true rfl⟩ rfl (c_note D (by omega)) (fun v9 h9 p9 => ?_)
        obtain ⟨D, e1⟩ := p9
        subst e1
        obtain ⟨D0, ok9, t7, t8, t9⟩ := id D
        obtain ⟨g1, C, SM, dl, dn, db, dbr, df, da, dd, dc, dv⟩ := id D0
        obtain ⟨q1, q2, q3, q4, q5, q6, q7⟩ := id ok9
        obtain ⟨e1_, e2_, e3_⟩ := tez_rng (b := b) q1
        change RN 154 36 _ _ _ 0 0 _
        dsimp only [Option.toList, List.nil_append]
        refine r_iconst hm rfl (k := ?_)
        refine r_ireturn hm rfl rfl (by rfl) (Nat.le_of_ble_eq_true rfl) (Nat.le_of_ble_eq_true rfl) ?_
        have w6 := bw0.mp c6
        have w17 := bw0.mp c17
        have w28 := bw0.mp (Decidable.not_not.mp c28)
        unfold frm
        rw [if_neg (by rw [w6]; decide), if_neg (by rw [w17]; decide), if_neg (by rw [w28]; decide)]
        exact ⟨D, rfl⟩
    · refine r_iconst hm rfl (k := ?_)
      refine r_ireturn hm rfl rfl (by rfl) (Nat.le_of_ble_eq_true rfl) (Nat.le_of_ble_eq_true rfl) ?_
      have w6 := bw0.mp c6
      have w17 := bw1.mp c17
      unfold frm
      rw [if_neg (by rw [w6]; decide), if_pos w17]
      exact ⟨D, rfl⟩
  · refine r_iconst hm rfl (k := ?_)
    refine r_ireturn hm rfl rfl (by rfl) (Nat.le_of_ble_eq_true rfl) (Nat.le_of_ble_eq_true rfl) ?_
    have w6 := bw1.mp c6
    unfold frm
    rw [if_pos w6]
    exact ⟨D, rfl⟩
set_option maxRecDepth 8000 in
theorem c_takeSemi {L : Nat} {h0 h : Hp} {b : Nat → Int} {n : Nat} {s : Rd} (D : Rr L h0 h b n s) : RN 156 0 [some (.inr (.inr (some (347))))] [] h 0 0 (fun v h2 => Rr L h0 h2 b n (tsm b n s) ∧ v = none) := by
  have hm : mrec 156 = some nM156 := rfl
  obtain ⟨D0, ok9, t7, t8, t9⟩ := id D
  obtain ⟨g1, C, SM, dl, dn, db, dbr, df, da, dd, dc, dv⟩ := id D0
  obtain ⟨q1, q2, q3, q4, q5, q6, q7⟩ := id ok9
  obtain ⟨e1_, e2_, e3_⟩ := tez_rng (b := b) q1
  refine r_aload_n hm rfl (k := ?_)
  refine r_getI (hm := hm) (hf := rfl) (hd := rfl) (hs := (by first | assumption | exact (g1.1 _).trans rfl)) (hv := (by first | assumption | exact g1.2 _ _ _ rfl | exact db _ (by omega) | exact dd _ (by omega) | exact dc _ (by omega) | exact dv _ (by omega))) (k := ?_)
  refine r_iconst hm rfl (k := ?_)
  refine r_icmp_eq (t := 14) hm rfl rfl (fun c5 => ?_) (fun c5 => ?_)
  · refine r_aload_n hm rfl (k := ?_)
    refine r_callv (j2 := 136) hm rfl rfl rfl rfl rfl rfl (by first | assumption | exact (g1.1 _).trans rfl) (Nat.le_of_ble_eq_true rfl) (Nat.le_of_ble_eq_true rfl) rfl ⟨Nat.le_of_ble_eq_true rfl, Nat.le_of_ble_eq_true rfl, Nat.le_of_ble_eq_true rfl, Nat.le_of_ble_eq_true rfl, Nat.le_of_ble_eq_true rfl⟩ rfl (c_advance D0 ok9 e2_ t9) (fun v9 h9 p9 => ?_)
    obtain ⟨D, e1⟩ := p9
    subst e1
    obtain ⟨D0, ok9, t7, t8, t9⟩ := id D
    obtain ⟨g1, C, SM, dl, dn, db, dbr, df, da, dd, dc, dv⟩ := id D0
    obtain ⟨q1, q2, q3, q4, q5, q6, q7⟩ := id ok9
    obtain ⟨e1_, e2_, e3_⟩ := tez_rng (b := b) q1
    change RN 156 18 _ _ _ 0 0 _
    dsimp only [Option.toList, List.nil_append]
    refine r_return hm rfl rfl (Nat.le_of_ble_eq_true rfl) (Nat.le_of_ble_eq_true rfl) ?_
    unfold tsm
    rw [if_neg (fun z => z c5)]
    exact ⟨D, rfl⟩
  · refine r_aload_n hm rfl (k := ?_)
    refine r_iconst hm rfl (k := ?_)
    refine r_callv (j2 := 148) hm rfl rfl rfl rfl rfl rfl (by first | assumption | exact (g1.1 _).trans rfl) (Nat.le_of_ble_eq_true rfl) (Nat.le_of_ble_eq_true rfl) rfl ⟨Nat.le_of_ble_eq_true rfl, Nat.le_of_ble_eq_true rfl, Nat.le_of_ble_eq_true rfl, Nat.le_of_ble_eq_true rfl, Nat.le_of_ble_eq_true rfl⟩ rfl (c_note D (by omega)) (fun v9 h9 p9 => ?_)
    obtain ⟨D, e1⟩ := p9
    subst e1
    obtain ⟨D0, ok9, t7, t8, t9⟩ := id D
    obtain ⟨g1, C, SM, dl, dn, db, dbr, df, da, dd, dc, dv⟩ := id D0
    obtain ⟨q1, q2, q3, q4, q5, q6, q7⟩ := id ok9
    obtain ⟨e1_, e2_, e3_⟩ := tez_rng (b := b) q1
    change RN 156 13 _ _ _ 0 0 _
    dsimp only [Option.toList, List.nil_append]
    refine r_return hm rfl rfl (Nat.le_of_ble_eq_true rfl) (Nat.le_of_ble_eq_true rfl) ?_
    unfold tsm
    rw [if_pos c5]
    exact ⟨D, rfl⟩
set_option maxRecDepth 8000 in
theorem c_parseLevel {L : Nat} {h0 h : Hp} {b : Nat → Int} {n : Nat} {s : Rd} (D : Rr L h0 h b n s) : RN 153 0 [some (.inr (.inr (some (347)))), none, none, none] [] h 0 0 (fun v h2 => Rr L h0 h2 b n (psl b n s) ∧ v = none) := by
  have hm : mrec 153 = some nM153 := rfl
  obtain ⟨D0, ok9, t7, t8, t9⟩ := id D
  obtain ⟨g1, C, SM, dl, dn, db, dbr, df, da, dd, dc, dv⟩ := id D0
  obtain ⟨q1, q2, q3, q4, q5, q6, q7⟩ := id ok9
  obtain ⟨e1_, e2_, e3_⟩ := tez_rng (b := b) q1
  refine r_aload_n hm rfl (k := ?_)
  refine r_getI (hm := hm) (hf := rfl) (hd := rfl) (hs := (by first | assumption | exact (g1.1 _).trans rfl)) (hv := (by first | assumption | exact g1.2 _ _ _ rfl | exact db _ (by omega) | exact dd _ (by omega) | exact dc _ (by omega) | exact dv _ (by omega))) (k := ?_)
  refine r_istore_n hm rfl (k := ?_)
  refine r_aload_n hm rfl (k := ?_)
  refine r_iconst hm rfl (k := ?_)
  refine r_iconst hm rfl (k := ?_)
  refine r_callv (j2 := 150) hm rfl rfl rfl rfl rfl rfl (by first | assumption | exact (g1.1 _).trans rfl) (Nat.le_of_ble_eq_true rfl) (Nat.le_of_ble_eq_true rfl) rfl ⟨Nat.le_of_ble_eq_true rfl, Nat.le_of_ble_eq_true rfl, Nat.le_of_ble_eq_true rfl, Nat.le_of_ble_eq_true rfl, Nat.le_of_ble_eq_true rfl⟩ rfl (c_takeNumber D (by omega)) (fun v9 h9 p9 => ?_)
  obtain ⟨D, e1⟩ := p9
  subst e1
  obtain ⟨k1_, k2_, k3_⟩ := ok9.m_tnm (lo := 1) (hi := 4) (by omega)
  obtain ⟨u, hu⟩ := Int.eq_ofNat_of_zero_le (show 0 ≤ (tnm b n s 1 4).2 by omega)
  obtain ⟨s1, es1⟩ : ∃ s1, (tnm b n s 1 4).1 = s1 := ⟨_, rfl⟩
  rw [hu] at k2_ k3_
  rw [hu]
  rw [es1] at D
  obtain ⟨D0, ok9, t7, t8, t9⟩ := id D
  obtain ⟨g1, C, SM, dl, dn, db, dbr, df, da, dd, dc, dv⟩ := id D0
  obtain ⟨q1, q2, q3, q4, q5, q6, q7⟩ := id ok9
  obtain ⟨e1_, e2_, e3_⟩ := tez_rng (b := b) q1
  change RN 153 11 _ _ _ 0 0 _
  dsimp only [Option.toList, List.cons_append, List.nil_append]
  refine r_istore_n hm rfl (k := ?_)
  refine r_aload_n hm rfl (k := ?_)
  refine r_getR (hm := hm) (hf := rfl) (hd := rfl) (hs := (by first | assumption | exact (g1.1 _).trans rfl)) (hv := (by first | assumption | exact g1.2 _ _ _ rfl | exact db _ (by omega) | exact dd _ (by omega) | exact dc _ (by omega) | exact dv _ (by omega))) (k := ?_)
  refine r_iload_n hm rfl (k := ?_)
  refine r_bald (hm := hm) (hf := rfl) (hs := (by first | assumption | exact (g1.1 _).trans rfl)) (hkd := by decide) (kk := u) (hi := by omega) (hn := (by omega)) (hv := (by first | assumption | exact g1.2 _ _ _ rfl | exact db _ (by omega) | exact dd _ (by omega) | exact dc _ (by omega) | exact dv _ (by omega))) (k := ?_)
  refine r_if_eq (t := 27) hm rfl rfl (fun c18 => ?_) (fun c18 => ?_)
  · refine r_aload_n hm rfl (k := ?_)
    refine r_getR (hm := hm) (hf := rfl) (hd := rfl) (hs := (by first | assumption | exact (g1.1 _).trans rfl)) (hv := (by first | assumption | exact g1.2 _ _ _ rfl | exact db _ (by omega) | exact dd _ (by omega) | exact dc _ (by omega) | exact dv _ (by omega))) (k := ?_)
    refine r_iload_n hm rfl (k := ?_)
    refine r_iconst hm rfl (k := ?_)
    refine r_bast (hm := hm) (hf := rfl) (hz := by omega) (h28 := (by omega)) (hs := (by first | assumption | exact (g1.1 _).trans rfl)) (kk := u) (hi := by omega) (hn := (by omega)) (k := ?_)
    replace D := D.pL (k := u)
    have es2 : psA s1 s.1 (u : Int) = stL (s1) u 1 := by unfold psA; rw [Int.toNat_natCast, if_neg (fun z => z c18)]
    rw [← es2] at D
    obtain ⟨D0, ok9, t7, t8, t9⟩ := id D
    obtain ⟨g1, C, SM, dl, dn, db, dbr, df, da, dd, dc, dv⟩ := id D0
    obtain ⟨q1, q2, q3, q4, q5, q6, q7⟩ := id ok9
    obtain ⟨e1_, e2_, e3_⟩ := tez_rng (b := b) q1
    refine r_aload_n hm rfl (k := ?_)
    refine r_getR (hm := hm) (hf := rfl) (hd := rfl) (hs := (by first | assumption | exact (g1.1 _).trans rfl)) (hv := (by first | assumption | exact g1.2 _ _ _ rfl | exact db _ (by omega) | exact dd _ (by omega) | exact dc _ (by omega) | exact dv _ (by omega))) (k := ?_)
    refine r_getR (hm := hm) (hf := rfl) (hd := rfl) (hs := (by first | assumption | exact (g1.1 _).trans rfl)) (hv := (by first | assumption | exact g1.2 _ _ _ rfl | exact db _ (by omega) | exact dd _ (by omega) | exact dc _ (by omega) | exact dv _ (by omega))) (k := ?_)
    refine r_iconst hm rfl (k := ?_)
    refine r_iload_n hm rfl (k := ?_)
    refine r_iadd hm rfl (hr := (by omega)) (k := ?_)
    refine r_iconst hm rfl (k := ?_)
    refine r_isub hm rfl (hr := (by omega)) (k := ?_)
    refine r_aload_n hm rfl (k := ?_)
    refine r_callv (j2 := 154) hm rfl rfl rfl rfl rfl rfl (by first | assumption | exact (g1.1 _).trans rfl) (Nat.le_of_ble_eq_true rfl) (Nat.le_of_ble_eq_true rfl) rfl ⟨Nat.le_of_ble_eq_true rfl, Nat.le_of_ble_eq_true rfl, Nat.le_of_ble_eq_true rfl, Nat.le_of_ble_eq_true rfl, Nat.le_of_ble_eq_true rfl⟩ rfl (c_formHere D) (fun v9 h9 p9 => ?_)
    obtain ⟨D, e1⟩ := p9
    subst e1
    obtain ⟨f1_, f2_, f3_⟩ := ok9.m_frm
    obtain ⟨D0, ok9, t7, t8, t9⟩ := id D
    obtain ⟨g1, C, SM, dl, dn, db, dbr, df, da, dd, dc, dv⟩ := id D0
    obtain ⟨q1, q2, q3, q4, q5, q6, q7⟩ := id ok9
    obtain ⟨e1_, e2_, e3_⟩ := tez_rng (b := b) q1
    change RN 153 50 _ _ _ 0 0 _
    dsimp only [Option.toList, List.cons_append, List.nil_append]
    refine r_iast (hm := hm) (hf := rfl) (h28 := (by omega)) (hs := (by first | assumption | exact (g1.1 _).trans rfl)) (kk := 1 + u) (hi := by omega) (hn := (by omega)) (k := ?_)
    replace D := D.pD (k := 1 + u) (v := (frm b n (psA s1 s.1 (u : Int))).2) (by omega)
    obtain ⟨D0, ok9, t7, t8, t9⟩ := id D
    obtain ⟨g1, C, SM, dl, dn, db, dbr, df, da, dd, dc, dv⟩ := id D0
    obtain ⟨q1, q2, q3, q4, q5, q6, q7⟩ := id ok9
    obtain ⟨e1_, e2_, e3_⟩ := tez_rng (b := b) q1
    refine r_aload_n hm rfl (k := ?_)
    refine r_callv (j2 := 136) hm rfl rfl rfl rfl rfl rfl (by first | assumption | exact (g1.1 _).trans rfl) (Nat.le_of_ble_eq_true rfl) (Nat.le_of_ble_eq_true rfl) rfl ⟨Nat.le_of_ble_eq_true rfl, Nat.le_of_ble_eq_true rfl, Nat.le_of_ble_eq_true rfl, Nat.le_of_ble_eq_true rfl, Nat.le_of_ble_eq_true rfl⟩ rfl (c_advance D0 ok9 e2_ t9) (fun v9 h9 p9 => ?_)
    obtain ⟨D, e1⟩ := p9
    subst e1
    have es3 : psB b n (psA s1 s.1 (u : Int)) (u : Int) = adv b n (stD (frm b n (psA s1 s.1 (u : Int))).1 (1 + u) (frm b n (psA s1 s.1 (u : Int))).2) := by unfold psB; rw [Int.toNat_natCast]
    replace D : Rr L h0 h9 b n (psB b n (psA s1 s.1 (u : Int)) (u : Int)) := by rw [es3]; exact D
    obtain ⟨D0, ok9, t7, t8, t9⟩ := id D
    obtain ⟨g1, C, SM, dl, dn, db, dbr, df, da, dd, dc, dv⟩ := id D0
    obtain ⟨q1, q2, q3, q4, q5, q6, q7⟩ := id ok9
    obtain ⟨e1_, e2_, e3_⟩ := tez_rng (b := b) q1
    change RN 153 55 _ _ _ 0 0 _
    dsimp only [Option.toList, List.nil_append]
    refine r_aload_n hm rfl (k := ?_)
    refine r_ldc hm rfl rfl (hd := rfl) (k := ?_)
    refine r_callv (j2 := 139) hm rfl rfl rfl rfl rfl rfl (by first | assumption | exact (g1.1 _).trans rfl) (Nat.le_of_ble_eq_true rfl) (Nat.le_of_ble_eq_true rfl) rfl ⟨Nat.le_of_ble_eq_true rfl, Nat.le_of_ble_eq_true rfl, Nat.le_of_ble_eq_true rfl, Nat.le_of_ble_eq_true rfl, Nat.le_of_ble_eq_true rfl⟩ rfl (c_isWord D (i := 8) (by omega)) (fun v9 h9 p9 => ?_)
    obtain ⟨e1, e2⟩ := p9
    subst e2
    replace e1 := e1.symm
    subst e1
    change RN 153 61 _ _ _ 0 0 _
    dsimp only [Option.toList, List.cons_append, List.nil_append]
    refine r_istore_n hm rfl (k := ?_)
    refine r_aload_n hm rfl (k := ?_)
    refine r_getR (hm := hm) (hf := rfl) (hd := rfl) (hs := (by first | assumption | exact (g1.1 _).trans rfl)) (hv := (by first | assumption | exact g1.2 _ _ _ rfl | exact db _ (by omega) | exact dd _ (by omega) | exact dc _ (by omega) | exact dv _ (by omega))) (k := ?_)
    refine r_getR (hm := hm) (hf := rfl) (hd := rfl) (hs := (by first | assumption | exact (g1.1 _).trans rfl)) (hv := (by first | assumption | exact g1.2 _ _ _ rfl | exact db _ (by omega) | exact dd _ (by omega) | exact dc _ (by omega) | exact dv _ (by omega))) (k := ?_)
    refine r_bipush hm rfl (k := ?_)
    refine r_iload_n hm rfl (k := ?_)
    refine r_iadd hm rfl (hr := (by omega)) (k := ?_)
    refine r_iconst hm rfl (k := ?_)
    refine r_isub hm rfl (hr := (by omega)) (k := ?_)
    refine r_iload_n hm rfl (k := ?_)
    refine r_if_eq (t := 83) hm rfl rfl (fun c76 => ?_) (fun c76 => ?_)
    · refine r_iconst hm rfl (k := ?_)
      refine r_iast (hm := hm) (hf := rfl) (h28 := (by omega)) (hs := (by first | assumption | exact (g1.1 _).trans rfl)) (kk := 5 + u) (hi := by omega) (hn := (by omega)) (k := ?_)
      replace D := D.pD (k := 5 + u) (v := 0) (by omega)
      obtain ⟨D0, ok9, t7, t8, t9⟩ := id D
      obtain ⟨g1, C, SM, dl, dn, db, dbr, df, da, dd, dc, dv⟩ := id D0
      obtain ⟨q1, q2, q3, q4, q5, q6, q7⟩ := id ok9
      obtain ⟨e1_, e2_, e3_⟩ := tez_rng (b := b) q1
      refine r_iload_n hm rfl (k := ?_)
      refine r_if_eq (t := 93) hm rfl rfl (fun c86 => ?_) (fun c86 => ?_)
      · refine r_return hm rfl rfl (Nat.le_of_ble_eq_true rfl) (Nat.le_of_ble_eq_true rfl) ?_
        have w86 := bw0.mp c86
        unfold psl
        rw [es1, hu]
        unfold psC
        rw [Int.toNat_natCast, if_neg (by rw [w86]; decide)]
        exact ⟨D, rfl⟩
      · exfalso; omega
    · refine r_iconst hm rfl (k := ?_)
      refine r_goto (t := 84) hm rfl (k := ?_)
      refine r_iast (hm := hm) (hf := rfl) (h28 := (by omega)) (hs := (by first | assumption | exact (g1.1 _).trans rfl)) (kk := 5 + u) (hi := by omega) (hn := (by omega)) (k := ?_)
      replace D := D.pD (k := 5 + u) (v := 1) (by omega)
      obtain ⟨D0, ok9, t7, t8, t9⟩ := id D
      obtain ⟨g1, C, SM, dl, dn, db, dbr, df, da, dd, dc, dv⟩ := id D0
      obtain ⟨q1, q2, q3, q4, q5, q6, q7⟩ := id ok9
      obtain ⟨e1_, e2_, e3_⟩ := tez_rng (b := b) q1
      refine r_iload_n hm rfl (k := ?_)
      refine r_if_eq (t := 93) hm rfl rfl (fun c86 => ?_) (fun c86 => ?_)
      · exfalso; omega
      · refine r_aload_n hm rfl (k := ?_)
        refine r_callv (j2 := 136) hm rfl rfl rfl rfl rfl rfl (by first | assumption | exact (g1.1 _).trans rfl) (Nat.le_of_ble_eq_true rfl) (Nat.le_of_ble_eq_true rfl) rfl ⟨Nat.le_of_ble_eq_true rfl, Nat.le_of_ble_eq_true rfl, Nat.le_of_ble_eq_true rfl, Nat.le_of_ble_eq_true rfl, Nat.le_of_ble_eq_true rfl⟩ rfl (c_advance D0 ok9 e2_ t9) (fun v9 h9 p9 => ?_)
        obtain ⟨D, e1⟩ := p9
        subst e1
        obtain ⟨D0, ok9, t7, t8, t9⟩ := id D
        obtain ⟨g1, C, SM, dl, dn, db, dbr, df, da, dd, dc, dv⟩ := id D0
        obtain ⟨q1, q2, q3, q4, q5, q6, q7⟩ := id ok9
        obtain ⟨e1_, e2_, e3_⟩ := tez_rng (b := b) q1
        change RN 153 93 _ _ _ 0 0 _
        dsimp only [Option.toList, List.nil_append]
        refine r_return hm rfl rfl (Nat.le_of_ble_eq_true rfl) (Nat.le_of_ble_eq_true rfl) ?_
        have w86 := bw1.mp c86
        unfold psl
        rw [es1, hu]
        unfold psC
        rw [Int.toNat_natCast, if_pos w86]
        exact ⟨D, rfl⟩
  · refine r_aload_n hm rfl (k := ?_)
    refine r_iconst hm rfl (k := ?_)
    refine r_iload_n hm rfl (k := ?_)
    refine r_callv (j2 := 149) hm rfl rfl rfl rfl rfl rfl (by first | assumption | exact (g1.1 _).trans rfl) (Nat.le_of_ble_eq_true rfl) (Nat.le_of_ble_eq_true rfl) rfl ⟨Nat.le_of_ble_eq_true rfl, Nat.le_of_ble_eq_true rfl, Nat.le_of_ble_eq_true rfl, Nat.le_of_ble_eq_true rfl, Nat.le_of_ble_eq_true rfl⟩ rfl (c_noteAt D (by omega)) (fun v9 h9 p9 => ?_)
    obtain ⟨D, e1⟩ := p9
    subst e1
    obtain ⟨D0, ok9, t7, t8, t9⟩ := id D
    obtain ⟨g1, C, SM, dl, dn, db, dbr, df, da, dd, dc, dv⟩ := id D0
    obtain ⟨q1, q2, q3, q4, q5, q6, q7⟩ := id ok9
    obtain ⟨e1_, e2_, e3_⟩ := tez_rng (b := b) q1
    change RN 153 27 _ _ _ 0 0 _
    dsimp only [Option.toList, List.nil_append]
    refine r_aload_n hm rfl (k := ?_)
    refine r_getR (hm := hm) (hf := rfl) (hd := rfl) (hs := (by first | assumption | exact (g1.1 _).trans rfl)) (hv := (by first | assumption | exact g1.2 _ _ _ rfl | exact db _ (by omega) | exact dd _ (by omega) | exact dc _ (by omega) | exact dv _ (by omega))) (k := ?_)
    refine r_iload_n hm rfl (k := ?_)
    refine r_iconst hm rfl (k := ?_)
    refine r_bast (hm := hm) (hf := rfl) (hz := by omega) (h28 := (by omega)) (hs := (by first | assumption | exact (g1.1 _).trans rfl)) (kk := u) (hi := by omega) (hn := (by omega)) (k := ?_)
    replace D := D.pL (k := u)
    have es2 : psA s1 s.1 (u : Int) = stL (noA s1 3 (s.1 : Int)) u 1 := by unfold psA; rw [Int.toNat_natCast, if_pos c18]
    rw [← es2] at D
    obtain ⟨D0, ok9, t7, t8, t9⟩ := id D
    obtain ⟨g1, C, SM, dl, dn, db, dbr, df, da, dd, dc, dv⟩ := id D0
    obtain ⟨q1, q2, q3, q4, q5, q6, q7⟩ := id ok9
    obtain ⟨e1_, e2_, e3_⟩ := tez_rng (b := b) q1
    refine r_aload_n hm rfl (k := ?_)
    refine r_getR (hm := hm) (hf := rfl) (hd := rfl) (hs := (by first | assumption | exact (g1.1 _).trans rfl)) (hv := (by first | assumption | exact g1.2 _ _ _ rfl | exact db _ (by omega) | exact dd _ (by omega) | exact dc _ (by omega) | exact dv _ (by omega))) (k := ?_)
    refine r_getR (hm := hm) (hf := rfl) (hd := rfl) (hs := (by first | assumption | exact (g1.1 _).trans rfl)) (hv := (by first | assumption | exact g1.2 _ _ _ rfl | exact db _ (by omega) | exact dd _ (by omega) | exact dc _ (by omega) | exact dv _ (by omega))) (k := ?_)
    refine r_iconst hm rfl (k := ?_)
    refine r_iload_n hm rfl (k := ?_)
    refine r_iadd hm rfl (hr := (by omega)) (k := ?_)
    refine r_iconst hm rfl (k := ?_)
    refine r_isub hm rfl (hr := (by omega)) (k := ?_)
    refine r_aload_n hm rfl (k := ?_)
    refine r_callv (j2 := 154) hm rfl rfl rfl rfl rfl rfl (by first | assumption | exact (g1.1 _).trans rfl) (Nat.le_of_ble_eq_true rfl) (Nat.le_of_ble_eq_true rfl) rfl ⟨Nat.le_of_ble_eq_true rfl, Nat.le_of_ble_eq_true rfl, Nat.le_of_ble_eq_true rfl, Nat.le_of_ble_eq_true rfl, Nat.le_of_ble_eq_true rfl⟩ rfl (c_formHere D) (fun v9 h9 p9 => ?_)
    obtain ⟨D, e1⟩ := p9
    subst e1
    obtain ⟨f1_, f2_, f3_⟩ := ok9.m_frm
    obtain ⟨D0, ok9, t7, t8, t9⟩ := id D
    obtain ⟨g1, C, SM, dl, dn, db, dbr, df, da, dd, dc, dv⟩ := id D0
    obtain ⟨q1, q2, q3, q4, q5, q6, q7⟩ := id ok9
    obtain ⟨e1_, e2_, e3_⟩ := tez_rng (b := b) q1
    change RN 153 50 _ _ _ 0 0 _
    dsimp only [Option.toList, List.cons_append, List.nil_append]
    refine r_iast (hm := hm) (hf := rfl) (h28 := (by omega)) (hs := (by first | assumption | exact (g1.1 _).trans rfl)) (kk := 1 + u) (hi := by omega) (hn := (by omega)) (k := ?_)
    replace D := D.pD (k := 1 + u) (v := (frm b n (psA s1 s.1 (u : Int))).2) (by omega)
    obtain ⟨D0, ok9, t7, t8, t9⟩ := id D
    obtain ⟨g1, C, SM, dl, dn, db, dbr, df, da, dd, dc, dv⟩ := id D0
    obtain ⟨q1, q2, q3, q4, q5, q6, q7⟩ := id ok9
    obtain ⟨e1_, e2_, e3_⟩ := tez_rng (b := b) q1
    refine r_aload_n hm rfl (k := ?_)
    refine r_callv (j2 := 136) hm rfl rfl rfl rfl rfl rfl (by first | assumption | exact (g1.1 _).trans rfl) (Nat.le_of_ble_eq_true rfl) (Nat.le_of_ble_eq_true rfl) rfl ⟨Nat.le_of_ble_eq_true rfl, Nat.le_of_ble_eq_true rfl, Nat.le_of_ble_eq_true rfl, Nat.le_of_ble_eq_true rfl, Nat.le_of_ble_eq_true rfl⟩ rfl (c_advance D0 ok9 e2_ t9) (fun v9 h9 p9 => ?_)
    obtain ⟨D, e1⟩ := p9
    subst e1
    have es3 : psB b n (psA s1 s.1 (u : Int)) (u : Int) = adv b n (stD (frm b n (psA s1 s.1 (u : Int))).1 (1 + u) (frm b n (psA s1 s.1 (u : Int))).2) := by unfold psB; rw [Int.toNat_natCast]
    replace D : Rr L h0 h9 b n (psB b n (psA s1 s.1 (u : Int)) (u : Int)) := by rw [es3]; exact D
    obtain ⟨D0, ok9, t7, t8, t9⟩ := id D
    obtain ⟨g1, C, SM, dl, dn, db, dbr, df, da, dd, dc, dv⟩ := id D0
    obtain ⟨q1, q2, q3, q4, q5, q6, q7⟩ := id ok9
    obtain ⟨e1_, e2_, e3_⟩ := tez_rng (b := b) q1
    change RN 153 55 _ _ _ 0 0 _
    dsimp only [Option.toList, List.nil_append]
    refine r_aload_n hm rfl (k := ?_)
    refine r_ldc hm rfl rfl (hd := rfl) (k := ?_)
    refine r_callv (j2 := 139) hm rfl rfl rfl rfl rfl rfl (by first | assumption | exact (g1.1 _).trans rfl) (Nat.le_of_ble_eq_true rfl) (Nat.le_of_ble_eq_true rfl) rfl ⟨Nat.le_of_ble_eq_true rfl, Nat.le_of_ble_eq_true rfl, Nat.le_of_ble_eq_true rfl, Nat.le_of_ble_eq_true rfl, Nat.le_of_ble_eq_true rfl⟩ rfl (c_isWord D (i := 8) (by omega)) (fun v9 h9 p9 => ?_)
    obtain ⟨e1, e2⟩ := p9
    subst e2
    replace e1 := e1.symm
    subst e1
    change RN 153 61 _ _ _ 0 0 _
    dsimp only [Option.toList, List.cons_append, List.nil_append]
    refine r_istore_n hm rfl (k := ?_)
    refine r_aload_n hm rfl (k := ?_)
    refine r_getR (hm := hm) (hf := rfl) (hd := rfl) (hs := (by first | assumption | exact (g1.1 _).trans rfl)) (hv := (by first | assumption | exact g1.2 _ _ _ rfl | exact db _ (by omega) | exact dd _ (by omega) | exact dc _ (by omega) | exact dv _ (by omega))) (k := ?_)
    refine r_getR (hm := hm) (hf := rfl) (hd := rfl) (hs := (by first | assumption | exact (g1.1 _).trans rfl)) (hv := (by first | assumption | exact g1.2 _ _ _ rfl | exact db _ (by omega) | exact dd _ (by omega) | exact dc _ (by omega) | exact dv _ (by omega))) (k := ?_)
    refine r_bipush hm rfl (k := ?_)
    refine r_iload_n hm rfl (k := ?_)
    refine r_iadd hm rfl (hr := (by omega)) (k := ?_)
    refine r_iconst hm rfl (k := ?_)
    refine r_isub hm rfl (hr := (by omega)) (k := ?_)
    refine r_iload_n hm rfl (k := ?_)
    refine r_if_eq (t := 83) hm rfl rfl (fun c76 => ?_) (fun c76 => ?_)
    · refine r_iconst hm rfl (k := ?_)
      refine r_iast (hm := hm) (hf := rfl) (h28 := (by omega)) (hs := (by first | assumption | exact (g1.1 _).trans rfl)) (kk := 5 + u) (hi := by omega) (hn := (by omega)) (k := ?_)
      replace D := D.pD (k := 5 + u) (v := 0) (by omega)
      obtain ⟨D0, ok9, t7, t8, t9⟩ := id D
      obtain ⟨g1, C, SM, dl, dn, db, dbr, df, da, dd, dc, dv⟩ := id D0
      obtain ⟨q1, q2, q3, q4, q5, q6, q7⟩ := id ok9
      obtain ⟨e1_, e2_, e3_⟩ := tez_rng (b := b) q1
      refine r_iload_n hm rfl (k := ?_)
      refine r_if_eq (t := 93) hm rfl rfl (fun c86 => ?_) (fun c86 => ?_)
      · refine r_return hm rfl rfl (Nat.le_of_ble_eq_true rfl) (Nat.le_of_ble_eq_true rfl) ?_
        have w86 := bw0.mp c86
        unfold psl
        rw [es1, hu]
        unfold psC
        rw [Int.toNat_natCast, if_neg (by rw [w86]; decide)]
        exact ⟨D, rfl⟩
      · exfalso; omega
    · refine r_iconst hm rfl (k := ?_)
      refine r_goto (t := 84) hm rfl (k := ?_)
      refine r_iast (hm := hm) (hf := rfl) (h28 := (by omega)) (hs := (by first | assumption | exact (g1.1 _).trans rfl)) (kk := 5 + u) (hi := by omega) (hn := (by omega)) (k := ?_)
      replace D := D.pD (k := 5 + u) (v := 1) (by omega)
      obtain ⟨D0, ok9, t7, t8, t9⟩ := id D
      obtain ⟨g1, C, SM, dl, dn, db, dbr, df, da, dd, dc, dv⟩ := id D0
      obtain ⟨q1, q2, q3, q4, q5, q6, q7⟩ := id ok9
      obtain ⟨e1_, e2_, e3_⟩ := tez_rng (b := b) q1
      refine r_iload_n hm rfl (k := ?_)
      refine r_if_eq (t := 93) hm rfl rfl (fun c86 => ?_) (fun c86 => ?_)
      · exfalso; omega
      · refine r_aload_n hm rfl (k := ?_)
        refine r_callv (j2 := 136) hm rfl rfl rfl rfl rfl rfl (by first | assumption | exact (g1.1 _).trans rfl) (Nat.le_of_ble_eq_true rfl) (Nat.le_of_ble_eq_true rfl) rfl ⟨Nat.le_of_ble_eq_true rfl, Nat.le_of_ble_eq_true rfl, Nat.le_of_ble_eq_true rfl, Nat.le_of_ble_eq_true rfl, Nat.le_of_ble_eq_true rfl⟩ rfl (c_advance D0 ok9 e2_ t9) (fun v9 h9 p9 => ?_)
        obtain ⟨D, e1⟩ := p9
        subst e1
        obtain ⟨D0, ok9, t7, t8, t9⟩ := id D
        obtain ⟨g1, C, SM, dl, dn, db, dbr, df, da, dd, dc, dv⟩ := id D0
        obtain ⟨q1, q2, q3, q4, q5, q6, q7⟩ := id ok9
        obtain ⟨e1_, e2_, e3_⟩ := tez_rng (b := b) q1
        change RN 153 93 _ _ _ 0 0 _
        dsimp only [Option.toList, List.nil_append]
        refine r_return hm rfl rfl (Nat.le_of_ble_eq_true rfl) (Nat.le_of_ble_eq_true rfl) ?_
        have w86 := bw1.mp c86
        unfold psl
        rw [es1, hu]
        unfold psC
        rw [Int.toNat_natCast, if_pos w86]
        exact ⟨D, rfl⟩
set_option maxHeartbeats 4000000 in
set_option maxRecDepth 8000 in
theorem c_parseClause {L : Nat} {h0 h : Hp} {b : Nat → Int} {n : Nat} {s : Rd} (D : Rr L h0 h b n s) : RN 138 0 [some (.inr (.inr (some (347))))] [] h 0 0 (fun v h2 => Rr L h0 h2 b n (pcl b n s) ∧ v = none) := by
  have hm : mrec 138 = some nM138 := rfl
  obtain ⟨D0, ok9, t7, t8, t9⟩ := id D
  obtain ⟨g1, C, SM, dl, dn, db, dbr, df, da, dd, dc, dv⟩ := id D0
  obtain ⟨q1, q2, q3, q4, q5, q6, q7⟩ := id ok9
  obtain ⟨e1_, e2_, e3_⟩ := tez_rng (b := b) q1
  refine r_aload_n hm rfl (k := ?_)
  refine r_ldc hm rfl rfl (hd := rfl) (k := ?_)
  refine r_callv (j2 := 139) hm rfl rfl rfl rfl rfl rfl (by first | assumption | exact (g1.1 _).trans rfl) (Nat.le_of_ble_eq_true rfl) (Nat.le_of_ble_eq_true rfl) rfl ⟨Nat.le_of_ble_eq_true rfl, Nat.le_of_ble_eq_true rfl, Nat.le_of_ble_eq_true rfl, Nat.le_of_ble_eq_true rfl, Nat.le_of_ble_eq_true rfl⟩ rfl (c_isWord D (i := 0) (by omega)) (fun v9 h9 p9 => ?_)
  obtain ⟨e1, e2⟩ := p9
  subst e2
  replace e1 := e1.symm
  subst e1
  change RN 138 6 _ _ _ 0 0 _
  dsimp only [Option.toList, List.cons_append, List.nil_append]
  refine r_if_eq (t := 57) hm rfl rfl (fun c6 => ?_) (fun c6 => ?_)
  · refine r_aload_n hm rfl (k := ?_)
    refine r_ldc hm rfl rfl (hd := rfl) (k := ?_)
    refine r_callv (j2 := 139) hm rfl rfl rfl rfl rfl rfl (by first | assumption | exact (g1.1 _).trans rfl) (Nat.le_of_ble_eq_true rfl) (Nat.le_of_ble_eq_true rfl) rfl ⟨Nat.le_of_ble_eq_true rfl, Nat.le_of_ble_eq_true rfl, Nat.le_of_ble_eq_true rfl, Nat.le_of_ble_eq_true rfl, Nat.le_of_ble_eq_true rfl⟩ rfl (c_isWord D (i := 2) (by omega)) (fun v9 h9 p9 => ?_)
    obtain ⟨e1, e2⟩ := p9
    subst e2
    replace e1 := e1.symm
    subst e1
    change RN 138 63 _ _ _ 0 0 _
    dsimp only [Option.toList, List.cons_append, List.nil_append]
    refine r_if_eq (t := 77) hm rfl rfl (fun c63 => ?_) (fun c63 => ?_)
    · refine r_aload_n hm rfl (k := ?_)
      refine r_ldc hm rfl rfl (hd := rfl) (k := ?_)
      refine r_callv (j2 := 139) hm rfl rfl rfl rfl rfl rfl (by first | assumption | exact (g1.1 _).trans rfl) (Nat.le_of_ble_eq_true rfl) (Nat.le_of_ble_eq_true rfl) rfl ⟨Nat.le_of_ble_eq_true rfl, Nat.le_of_ble_eq_true rfl, Nat.le_of_ble_eq_true rfl, Nat.le_of_ble_eq_true rfl, Nat.le_of_ble_eq_true rfl⟩ rfl (c_isWord D (i := 3) (by omega)) (fun v9 h9 p9 => ?_)
      obtain ⟨e1, e2⟩ := p9
      subst e2
      replace e1 := e1.symm
      subst e1
      change RN 138 83 _ _ _ 0 0 _
      dsimp only [Option.toList, List.cons_append, List.nil_append]
      refine r_if_eq (t := 110) hm rfl rfl (fun c83 => ?_) (fun c83 => ?_)
      · refine r_aload_n hm rfl (k := ?_)
        refine r_ldc hm rfl rfl (hd := rfl) (k := ?_)
        refine r_callv (j2 := 139) hm rfl rfl rfl rfl rfl rfl (by first | assumption | exact (g1.1 _).trans rfl) (Nat.le_of_ble_eq_true rfl) (Nat.le_of_ble_eq_true rfl) rfl ⟨Nat.le_of_ble_eq_true rfl, Nat.le_of_ble_eq_true rfl, Nat.le_of_ble_eq_true rfl, Nat.le_of_ble_eq_true rfl, Nat.le_of_ble_eq_true rfl⟩ rfl (c_isWord D (i := 5) (by omega)) (fun v9 h9 p9 => ?_)
        obtain ⟨e1, e2⟩ := p9
        subst e2
        replace e1 := e1.symm
        subst e1
        change RN 138 116 _ _ _ 0 0 _
        dsimp only [Option.toList, List.cons_append, List.nil_append]
        refine r_if_eq (t := 143) hm rfl rfl (fun c116 => ?_) (fun c116 => ?_)
        · refine r_aload_n hm rfl (k := ?_)
          refine r_ldc hm rfl rfl (hd := rfl) (k := ?_)
          refine r_callv (j2 := 139) hm rfl rfl rfl rfl rfl rfl (by first | assumption | exact (g1.1 _).trans rfl) (Nat.le_of_ble_eq_true rfl) (Nat.le_of_ble_eq_true rfl) rfl ⟨Nat.le_of_ble_eq_true rfl, Nat.le_of_ble_eq_true rfl, Nat.le_of_ble_eq_true rfl, Nat.le_of_ble_eq_true rfl, Nat.le_of_ble_eq_true rfl⟩ rfl (c_isWord D (i := 6) (by omega)) (fun v9 h9 p9 => ?_)
          obtain ⟨e1, e2⟩ := p9
          subst e2
          replace e1 := e1.symm
          subst e1
          change RN 138 149 _ _ _ 0 0 _
          dsimp only [Option.toList, List.cons_append, List.nil_append]
          refine r_if_eq (t := 176) hm rfl rfl (fun c149 => ?_) (fun c149 => ?_)
          · refine r_aload_n hm rfl (k := ?_)
            refine r_iconst hm rfl (k := ?_)
            refine r_callv (j2 := 148) hm rfl rfl rfl rfl rfl rfl (by first | assumption | exact (g1.1 _).trans rfl) (Nat.le_of_ble_eq_true rfl) (Nat.le_of_ble_eq_true rfl) rfl ⟨Nat.le_of_ble_eq_true rfl, Nat.le_of_ble_eq_true rfl, Nat.le_of_ble_eq_true rfl, Nat.le_of_ble_eq_true rfl, Nat.le_of_ble_eq_true rfl⟩ rfl (c_note D (by omega)) (fun v9 h9 p9 => ?_)
            obtain ⟨D, e1⟩ := p9
            subst e1
            obtain ⟨D0, ok9, t7, t8, t9⟩ := id D
            obtain ⟨g1, C, SM, dl, dn, db, dbr, df, da, dd, dc, dv⟩ := id D0
            obtain ⟨q1, q2, q3, q4, q5, q6, q7⟩ := id ok9
            obtain ⟨e1_, e2_, e3_⟩ := tez_rng (b := b) q1
            change RN 138 181 _ _ _ 0 0 _
            dsimp only [Option.toList, List.nil_append]
            refine r_aload_n hm rfl (k := ?_)
            refine r_callv (j2 := 156) hm rfl rfl rfl rfl rfl rfl (by first | assumption | exact (g1.1 _).trans rfl) (Nat.le_of_ble_eq_true rfl) (Nat.le_of_ble_eq_true rfl) rfl ⟨Nat.le_of_ble_eq_true rfl, Nat.le_of_ble_eq_true rfl, Nat.le_of_ble_eq_true rfl, Nat.le_of_ble_eq_true rfl, Nat.le_of_ble_eq_true rfl⟩ rfl (c_takeSemi D) (fun v9 h9 p9 => ?_)
            obtain ⟨D, e1⟩ := p9
            subst e1
            obtain ⟨D0, ok9, t7, t8, t9⟩ := id D
            obtain ⟨g1, C, SM, dl, dn, db, dbr, df, da, dd, dc, dv⟩ := id D0
            obtain ⟨q1, q2, q3, q4, q5, q6, q7⟩ := id ok9
            obtain ⟨e1_, e2_, e3_⟩ := tez_rng (b := b) q1
            change RN 138 185 _ _ _ 0 0 _
            dsimp only [Option.toList, List.nil_append]
            refine r_return hm rfl rfl (Nat.le_of_ble_eq_true rfl) (Nat.le_of_ble_eq_true rfl) ?_
            have w6 := bw0.mp c6
            have w63 := bw0.mp c63
            have w83 := bw0.mp c83
            have w116 := bw0.mp c116
            have w149 := bw0.mp c149
            unfold pcl
            rw [if_neg (by rw [w6]; decide), if_neg (by rw [w63]; decide), if_neg (by rw [w83]; decide), if_neg (by rw [w116]; decide), if_neg (by rw [w149]; decide)]
            exact ⟨D, rfl⟩
          · refine r_aload_n hm rfl (k := ?_)
            refine r_iconst hm rfl (k := ?_)
            refine r_callv (j2 := 147) hm rfl rfl rfl rfl rfl rfl (by first | assumption | exact (g1.1 _).trans rfl) (Nat.le_of_ble_eq_true rfl) (Nat.le_of_ble_eq_true rfl) rfl ⟨Nat.le_of_ble_eq_true rfl, Nat.le_of_ble_eq_true rfl, Nat.le_of_ble_eq_true rfl, Nat.le_of_ble_eq_true rfl, Nat.le_of_ble_eq_true rfl⟩ rfl (c_beginClause D (c := 3) (by omega)) (fun v9 h9 p9 => ?_)
            obtain ⟨D, e1⟩ := p9
            subst e1
            obtain ⟨D0, ok9, t7, t8, t9⟩ := id D
            obtain ⟨g1, C, SM, dl, dn, db, dbr, df, da, dd, dc, dv⟩ := id D0
            obtain ⟨q1, q2, q3, q4, q5, q6, q7⟩ := id ok9
            obtain ⟨e1_, e2_, e3_⟩ := tez_rng (b := b) q1
            change RN 138 157 _ _ _ 0 0 _
            dsimp only [Option.toList, List.nil_append]
            refine r_aload_n hm rfl (k := ?_)
            refine r_getR (hm := hm) (hf := rfl) (hd := rfl) (hs := (by first | assumption | exact (g1.1 _).trans rfl)) (hv := (by first | assumption | exact g1.2 _ _ _ rfl | exact db _ (by omega) | exact dd _ (by omega) | exact dc _ (by omega) | exact dv _ (by omega))) (k := ?_)
            refine r_getR (hm := hm) (hf := rfl) (hd := rfl) (hs := (by first | assumption | exact (g1.1 _).trans rfl)) (hv := (by first | assumption | exact g1.2 _ _ _ rfl | exact db _ (by omega) | exact dd _ (by omega) | exact dc _ (by omega) | exact dv _ (by omega))) (k := ?_)
            refine r_bipush hm rfl (k := ?_)
            refine r_aload_n hm rfl (k := ?_)
            refine r_ldc hm rfl rfl (hd := rfl) (k := ?_)
            refine r_callv (j2 := 155) hm rfl rfl rfl rfl rfl rfl (by first | assumption | exact (g1.1 _).trans rfl) (Nat.le_of_ble_eq_true rfl) (Nat.le_of_ble_eq_true rfl) rfl ⟨Nat.le_of_ble_eq_true rfl, Nat.le_of_ble_eq_true rfl, Nat.le_of_ble_eq_true rfl, Nat.le_of_ble_eq_true rfl, Nat.le_of_ble_eq_true rfl⟩ rfl (c_takeChoice D (i := 7) (by omega)) (fun v9 h9 p9 => ?_)
            obtain ⟨D, e1⟩ := p9
            subst e1
            obtain ⟨k1_, k2_⟩ := ok9.m_tch (i := 7)
            obtain ⟨D0, ok9, t7, t8, t9⟩ := id D
            obtain ⟨g1, C, SM, dl, dn, db, dbr, df, da, dd, dc, dv⟩ := id D0
            obtain ⟨q1, q2, q3, q4, q5, q6, q7⟩ := id ok9
            obtain ⟨e1_, e2_, e3_⟩ := tez_rng (b := b) q1
            change RN 138 172 _ _ _ 0 0 _
            dsimp only [Option.toList, List.cons_append, List.nil_append]
            refine r_iast (hm := hm) (hf := rfl) (h28 := (by omega)) (hs := (by first | assumption | exact (g1.1 _).trans rfl)) (kk := 12) (hi := by omega) (hn := (by omega)) (k := ?_)
            replace D : Rr L h0 _ b n (tcD b n (bgc b n s 3) 7 12) := D.pD (k := 12) (v := (tch b n (bgc b n s 3) 7).2) (by omega)
            obtain ⟨D0, ok9, t7, t8, t9⟩ := id D
            obtain ⟨g1, C, SM, dl, dn, db, dbr, df, da, dd, dc, dv⟩ := id D0
            obtain ⟨q1, q2, q3, q4, q5, q6, q7⟩ := id ok9
            obtain ⟨e1_, e2_, e3_⟩ := tez_rng (b := b) q1
            refine r_goto (t := 181) hm rfl (k := ?_)
            refine r_aload_n hm rfl (k := ?_)
            refine r_callv (j2 := 156) hm rfl rfl rfl rfl rfl rfl (by first | assumption | exact (g1.1 _).trans rfl) (Nat.le_of_ble_eq_true rfl) (Nat.le_of_ble_eq_true rfl) rfl ⟨Nat.le_of_ble_eq_true rfl, Nat.le_of_ble_eq_true rfl, Nat.le_of_ble_eq_true rfl, Nat.le_of_ble_eq_true rfl, Nat.le_of_ble_eq_true rfl⟩ rfl (c_takeSemi D) (fun v9 h9 p9 => ?_)
            obtain ⟨D, e1⟩ := p9
            subst e1
            obtain ⟨D0, ok9, t7, t8, t9⟩ := id D
            obtain ⟨g1, C, SM, dl, dn, db, dbr, df, da, dd, dc, dv⟩ := id D0
            obtain ⟨q1, q2, q3, q4, q5, q6, q7⟩ := id ok9
            obtain ⟨e1_, e2_, e3_⟩ := tez_rng (b := b) q1
            change RN 138 185 _ _ _ 0 0 _
            dsimp only [Option.toList, List.nil_append]
            refine r_return hm rfl rfl (Nat.le_of_ble_eq_true rfl) (Nat.le_of_ble_eq_true rfl) ?_
            have w6 := bw0.mp c6
            have w63 := bw0.mp c63
            have w83 := bw0.mp c83
            have w116 := bw0.mp c116
            have w149 := bw1.mp c149
            unfold pcl
            rw [if_neg (by rw [w6]; decide), if_neg (by rw [w63]; decide), if_neg (by rw [w83]; decide), if_neg (by rw [w116]; decide), if_pos w149]
            exact ⟨D, rfl⟩
        · refine r_aload_n hm rfl (k := ?_)
          refine r_iconst hm rfl (k := ?_)
          refine r_callv (j2 := 147) hm rfl rfl rfl rfl rfl rfl (by first | assumption | exact (g1.1 _).trans rfl) (Nat.le_of_ble_eq_true rfl) (Nat.le_of_ble_eq_true rfl) rfl ⟨Nat.le_of_ble_eq_true rfl, Nat.le_of_ble_eq_true rfl, Nat.le_of_ble_eq_true rfl, Nat.le_of_ble_eq_true rfl, Nat.le_of_ble_eq_true rfl⟩ rfl (c_beginClause D (c := 2) (by omega)) (fun v9 h9 p9 => ?_)
          obtain ⟨D, e1⟩ := p9
          subst e1
          obtain ⟨D0, ok9, t7, t8, t9⟩ := id D
          obtain ⟨g1, C, SM, dl, dn, db, dbr, df, da, dd, dc, dv⟩ := id D0
          obtain ⟨q1, q2, q3, q4, q5, q6, q7⟩ := id ok9
          obtain ⟨e1_, e2_, e3_⟩ := tez_rng (b := b) q1
          change RN 138 124 _ _ _ 0 0 _
          dsimp only [Option.toList, List.nil_append]
          refine r_aload_n hm rfl (k := ?_)
          refine r_getR (hm := hm) (hf := rfl) (hd := rfl) (hs := (by first | assumption | exact (g1.1 _).trans rfl)) (hv := (by first | assumption | exact g1.2 _ _ _ rfl | exact db _ (by omega) | exact dd _ (by omega) | exact dc _ (by omega) | exact dv _ (by omega))) (k := ?_)
          refine r_getR (hm := hm) (hf := rfl) (hd := rfl) (hs := (by first | assumption | exact (g1.1 _).trans rfl)) (hv := (by first | assumption | exact g1.2 _ _ _ rfl | exact db _ (by omega) | exact dd _ (by omega) | exact dc _ (by omega) | exact dv _ (by omega))) (k := ?_)
          refine r_bipush hm rfl (k := ?_)
          refine r_aload_n hm rfl (k := ?_)
          refine r_ldc hm rfl rfl (hd := rfl) (k := ?_)
          refine r_callv (j2 := 155) hm rfl rfl rfl rfl rfl rfl (by first | assumption | exact (g1.1 _).trans rfl) (Nat.le_of_ble_eq_true rfl) (Nat.le_of_ble_eq_true rfl) rfl ⟨Nat.le_of_ble_eq_true rfl, Nat.le_of_ble_eq_true rfl, Nat.le_of_ble_eq_true rfl, Nat.le_of_ble_eq_true rfl, Nat.le_of_ble_eq_true rfl⟩ rfl (c_takeChoice D (i := 4) (by omega)) (fun v9 h9 p9 => ?_)
          obtain ⟨D, e1⟩ := p9
          subst e1
          obtain ⟨k1_, k2_⟩ := ok9.m_tch (i := 4)
          obtain ⟨D0, ok9, t7, t8, t9⟩ := id D
          obtain ⟨g1, C, SM, dl, dn, db, dbr, df, da, dd, dc, dv⟩ := id D0
          obtain ⟨q1, q2, q3, q4, q5, q6, q7⟩ := id ok9
          obtain ⟨e1_, e2_, e3_⟩ := tez_rng (b := b) q1
          change RN 138 139 _ _ _ 0 0 _
          dsimp only [Option.toList, List.cons_append, List.nil_append]
          refine r_iast (hm := hm) (hf := rfl) (h28 := (by omega)) (hs := (by first | assumption | exact (g1.1 _).trans rfl)) (kk := 11) (hi := by omega) (hn := (by omega)) (k := ?_)
          replace D : Rr L h0 _ b n (tcD b n (bgc b n s 2) 4 11) := D.pD (k := 11) (v := (tch b n (bgc b n s 2) 4).2) (by omega)
          obtain ⟨D0, ok9, t7, t8, t9⟩ := id D
          obtain ⟨g1, C, SM, dl, dn, db, dbr, df, da, dd, dc, dv⟩ := id D0
          obtain ⟨q1, q2, q3, q4, q5, q6, q7⟩ := id ok9
          obtain ⟨e1_, e2_, e3_⟩ := tez_rng (b := b) q1
          refine r_goto (t := 181) hm rfl (k := ?_)
          refine r_aload_n hm rfl (k := ?_)
          refine r_callv (j2 := 156) hm rfl rfl rfl rfl rfl rfl (by first | assumption | exact (g1.1 _).trans rfl) (Nat.le_of_ble_eq_true rfl) (Nat.le_of_ble_eq_true rfl) rfl ⟨Nat.le_of_ble_eq_true rfl, Nat.le_of_ble_eq_true rfl, Nat.le_of_ble_eq_true rfl, Nat.le_of_ble_eq_true rfl, Nat.le_of_ble_eq_true rfl⟩ rfl (c_takeSemi D) (fun v9 h9 p9 => ?_)
          obtain ⟨D, e1⟩ := p9
          subst e1
          obtain ⟨D0, ok9, t7, t8, t9⟩ := id D
          obtain ⟨g1, C, SM, dl, dn, db, dbr, df, da, dd, dc, dv⟩ := id D0
          obtain ⟨q1, q2, q3, q4, q5, q6, q7⟩ := id ok9
          obtain ⟨e1_, e2_, e3_⟩ := tez_rng (b := b) q1
          change RN 138 185 _ _ _ 0 0 _
          dsimp only [Option.toList, List.nil_append]
          refine r_return hm rfl rfl (Nat.le_of_ble_eq_true rfl) (Nat.le_of_ble_eq_true rfl) ?_
          have w6 := bw0.mp c6
          have w63 := bw0.mp c63
          have w83 := bw0.mp c83
          have w116 := bw1.mp c116
          unfold pcl
          rw [if_neg (by rw [w6]; decide), if_neg (by rw [w63]; decide), if_neg (by rw [w83]; decide), if_pos w116]
          exact ⟨D, rfl⟩
      · refine r_aload_n hm rfl (k := ?_)
        refine r_iconst hm rfl (k := ?_)
        refine r_callv (j2 := 147) hm rfl rfl rfl rfl rfl rfl (by first | assumption | exact (g1.1 _).trans rfl) (Nat.le_of_ble_eq_true rfl) (Nat.le_of_ble_eq_true rfl) rfl ⟨Nat.le_of_ble_eq_true rfl, Nat.le_of_ble_eq_true rfl, Nat.le_of_ble_eq_true rfl, Nat.le_of_ble_eq_true rfl, Nat.le_of_ble_eq_true rfl⟩ rfl (c_beginClause D (c := 1) (by omega)) (fun v9 h9 p9 => ?_)
        obtain ⟨D, e1⟩ := p9
        subst e1
        obtain ⟨D0, ok9, t7, t8, t9⟩ := id D
        obtain ⟨g1, C, SM, dl, dn, db, dbr, df, da, dd, dc, dv⟩ := id D0
        obtain ⟨q1, q2, q3, q4, q5, q6, q7⟩ := id ok9
        obtain ⟨e1_, e2_, e3_⟩ := tez_rng (b := b) q1
        change RN 138 91 _ _ _ 0 0 _
        dsimp only [Option.toList, List.nil_append]
        refine r_aload_n hm rfl (k := ?_)
        refine r_getR (hm := hm) (hf := rfl) (hd := rfl) (hs := (by first | assumption | exact (g1.1 _).trans rfl)) (hv := (by first | assumption | exact g1.2 _ _ _ rfl | exact db _ (by omega) | exact dd _ (by omega) | exact dc _ (by omega) | exact dv _ (by omega))) (k := ?_)
        refine r_getR (hm := hm) (hf := rfl) (hd := rfl) (hs := (by first | assumption | exact (g1.1 _).trans rfl)) (hv := (by first | assumption | exact g1.2 _ _ _ rfl | exact db _ (by omega) | exact dd _ (by omega) | exact dc _ (by omega) | exact dv _ (by omega))) (k := ?_)
        refine r_bipush hm rfl (k := ?_)
        refine r_aload_n hm rfl (k := ?_)
        refine r_ldc hm rfl rfl (hd := rfl) (k := ?_)
        refine r_callv (j2 := 155) hm rfl rfl rfl rfl rfl rfl (by first | assumption | exact (g1.1 _).trans rfl) (Nat.le_of_ble_eq_true rfl) (Nat.le_of_ble_eq_true rfl) rfl ⟨Nat.le_of_ble_eq_true rfl, Nat.le_of_ble_eq_true rfl, Nat.le_of_ble_eq_true rfl, Nat.le_of_ble_eq_true rfl, Nat.le_of_ble_eq_true rfl⟩ rfl (c_takeChoice D (i := 4) (by omega)) (fun v9 h9 p9 => ?_)
        obtain ⟨D, e1⟩ := p9
        subst e1
        obtain ⟨k1_, k2_⟩ := ok9.m_tch (i := 4)
        obtain ⟨D0, ok9, t7, t8, t9⟩ := id D
        obtain ⟨g1, C, SM, dl, dn, db, dbr, df, da, dd, dc, dv⟩ := id D0
        obtain ⟨q1, q2, q3, q4, q5, q6, q7⟩ := id ok9
        obtain ⟨e1_, e2_, e3_⟩ := tez_rng (b := b) q1
        change RN 138 106 _ _ _ 0 0 _
        dsimp only [Option.toList, List.cons_append, List.nil_append]
        refine r_iast (hm := hm) (hf := rfl) (h28 := (by omega)) (hs := (by first | assumption | exact (g1.1 _).trans rfl)) (kk := 10) (hi := by omega) (hn := (by omega)) (k := ?_)
        replace D : Rr L h0 _ b n (tcD b n (bgc b n s 1) 4 10) := D.pD (k := 10) (v := (tch b n (bgc b n s 1) 4).2) (by omega)
        obtain ⟨D0, ok9, t7, t8, t9⟩ := id D
        obtain ⟨g1, C, SM, dl, dn, db, dbr, df, da, dd, dc, dv⟩ := id D0
        obtain ⟨q1, q2, q3, q4, q5, q6, q7⟩ := id ok9
        obtain ⟨e1_, e2_, e3_⟩ := tez_rng (b := b) q1
        refine r_goto (t := 181) hm rfl (k := ?_)
        refine r_aload_n hm rfl (k := ?_)
        refine r_callv (j2 := 156) hm rfl rfl rfl rfl rfl rfl (by first | assumption | exact (g1.1 _).trans rfl) (Nat.le_of_ble_eq_true rfl) (Nat.le_of_ble_eq_true rfl) rfl ⟨Nat.le_of_ble_eq_true rfl, Nat.le_of_ble_eq_true rfl, Nat.le_of_ble_eq_true rfl, Nat.le_of_ble_eq_true rfl, Nat.le_of_ble_eq_true rfl⟩ rfl (c_takeSemi D) (fun v9 h9 p9 => ?_)
        obtain ⟨D, e1⟩ := p9
        subst e1
        obtain ⟨D0, ok9, t7, t8, t9⟩ := id D
        obtain ⟨g1, C, SM, dl, dn, db, dbr, df, da, dd, dc, dv⟩ := id D0
        obtain ⟨q1, q2, q3, q4, q5, q6, q7⟩ := id ok9
        obtain ⟨e1_, e2_, e3_⟩ := tez_rng (b := b) q1
        change RN 138 185 _ _ _ 0 0 _
        dsimp only [Option.toList, List.nil_append]
        refine r_return hm rfl rfl (Nat.le_of_ble_eq_true rfl) (Nat.le_of_ble_eq_true rfl) ?_
        have w6 := bw0.mp c6
        have w63 := bw0.mp c63
        have w83 := bw1.mp c83
        unfold pcl
        rw [if_neg (by rw [w6]; decide), if_neg (by rw [w63]; decide), if_pos w83]
        exact ⟨D, rfl⟩
    · refine r_aload_n hm rfl (k := ?_)
      refine r_callv (j2 := 136) hm rfl rfl rfl rfl rfl rfl (by first | assumption | exact (g1.1 _).trans rfl) (Nat.le_of_ble_eq_true rfl) (Nat.le_of_ble_eq_true rfl) rfl ⟨Nat.le_of_ble_eq_true rfl, Nat.le_of_ble_eq_true rfl, Nat.le_of_ble_eq_true rfl, Nat.le_of_ble_eq_true rfl, Nat.le_of_ble_eq_true rfl⟩ rfl (c_advance D0 ok9 e2_ t9) (fun v9 h9 p9 => ?_)
      obtain ⟨D, e1⟩ := p9
      subst e1
      obtain ⟨D0, ok9, t7, t8, t9⟩ := id D
      obtain ⟨g1, C, SM, dl, dn, db, dbr, df, da, dd, dc, dv⟩ := id D0
      obtain ⟨q1, q2, q3, q4, q5, q6, q7⟩ := id ok9
      obtain ⟨e1_, e2_, e3_⟩ := tez_rng (b := b) q1
      change RN 138 70 _ _ _ 0 0 _
      dsimp only [Option.toList, List.nil_append]
      refine r_aload_n hm rfl (k := ?_)
      refine r_callv (j2 := 153) hm rfl rfl rfl rfl rfl rfl (by first | assumption | exact (g1.1 _).trans rfl) (Nat.le_of_ble_eq_true rfl) (Nat.le_of_ble_eq_true rfl) rfl ⟨Nat.le_of_ble_eq_true rfl, Nat.le_of_ble_eq_true rfl, Nat.le_of_ble_eq_true rfl, Nat.le_of_ble_eq_true rfl, Nat.le_of_ble_eq_true rfl⟩ rfl (c_parseLevel D) (fun v9 h9 p9 => ?_)
      obtain ⟨D, e1⟩ := p9
      subst e1
      obtain ⟨D0, ok9, t7, t8, t9⟩ := id D
      obtain ⟨g1, C, SM, dl, dn, db, dbr, df, da, dd, dc, dv⟩ := id D0
      obtain ⟨q1, q2, q3, q4, q5, q6, q7⟩ := id ok9
      obtain ⟨e1_, e2_, e3_⟩ := tez_rng (b := b) q1
      change RN 138 74 _ _ _ 0 0 _
      dsimp only [Option.toList, List.nil_append]
      refine r_goto (t := 181) hm rfl (k := ?_)
      refine r_aload_n hm rfl (k := ?_)
      refine r_callv (j2 := 156) hm rfl rfl rfl rfl rfl rfl (by first | assumption | exact (g1.1 _).trans rfl) (Nat.le_of_ble_eq_true rfl) (Nat.le_of_ble_eq_true rfl) rfl ⟨Nat.le_of_ble_eq_true rfl, Nat.le_of_ble_eq_true rfl, Nat.le_of_ble_eq_true rfl, Nat.le_of_ble_eq_true rfl, Nat.le_of_ble_eq_true rfl⟩ rfl (c_takeSemi D) (fun v9 h9 p9 => ?_)
      obtain ⟨D, e1⟩ := p9
      subst e1
      obtain ⟨D0, ok9, t7, t8, t9⟩ := id D
      obtain ⟨g1, C, SM, dl, dn, db, dbr, df, da, dd, dc, dv⟩ := id D0
      obtain ⟨q1, q2, q3, q4, q5, q6, q7⟩ := id ok9
      obtain ⟨e1_, e2_, e3_⟩ := tez_rng (b := b) q1
      change RN 138 185 _ _ _ 0 0 _
      dsimp only [Option.toList, List.nil_append]
      refine r_return hm rfl rfl (Nat.le_of_ble_eq_true rfl) (Nat.le_of_ble_eq_true rfl) ?_
      have w6 := bw0.mp c6
      have w63 := bw1.mp c63
      unfold pcl
      rw [if_neg (by rw [w6]; decide), if_pos w63]
      exact ⟨D, rfl⟩
  · refine r_aload_n hm rfl (k := ?_)
    refine r_iconst hm rfl (k := ?_)
    refine r_callv (j2 := 147) hm rfl rfl rfl rfl rfl rfl (by first | assumption | exact (g1.1 _).trans rfl) (Nat.le_of_ble_eq_true rfl) (Nat.le_of_ble_eq_true rfl) rfl ⟨Nat.le_of_ble_eq_true rfl, Nat.le_of_ble_eq_true rfl, Nat.le_of_ble_eq_true rfl, Nat.le_of_ble_eq_true rfl, Nat.le_of_ble_eq_true rfl⟩ rfl (c_beginClause D (c := 0) (by omega)) (fun v9 h9 p9 => ?_)
    obtain ⟨D, e1⟩ := p9
    subst e1
    obtain ⟨D0, ok9, t7, t8, t9⟩ := id D
    obtain ⟨g1, C, SM, dl, dn, db, dbr, df, da, dd, dc, dv⟩ := id D0
    obtain ⟨q1, q2, q3, q4, q5, q6, q7⟩ := id ok9
    obtain ⟨e1_, e2_, e3_⟩ := tez_rng (b := b) q1
    change RN 138 14 _ _ _ 0 0 _
    dsimp only [Option.toList, List.nil_append]
    refine r_aload_n hm rfl (k := ?_)
    refine r_getR (hm := hm) (hf := rfl) (hd := rfl) (hs := (by first | assumption | exact (g1.1 _).trans rfl)) (hv := (by first | assumption | exact g1.2 _ _ _ rfl | exact db _ (by omega) | exact dd _ (by omega) | exact dc _ (by omega) | exact dv _ (by omega))) (k := ?_)
    refine r_getR (hm := hm) (hf := rfl) (hd := rfl) (hs := (by first | assumption | exact (g1.1 _).trans rfl)) (hv := (by first | assumption | exact g1.2 _ _ _ rfl | exact db _ (by omega) | exact dd _ (by omega) | exact dc _ (by omega) | exact dv _ (by omega))) (k := ?_)
    refine r_iconst hm rfl (k := ?_)
    refine r_aload_n hm rfl (k := ?_)
    refine r_bipush hm rfl (k := ?_)
    refine r_bipush hm rfl (k := ?_)
    refine r_callv (j2 := 150) hm rfl rfl rfl rfl rfl rfl (by first | assumption | exact (g1.1 _).trans rfl) (Nat.le_of_ble_eq_true rfl) (Nat.le_of_ble_eq_true rfl) rfl ⟨Nat.le_of_ble_eq_true rfl, Nat.le_of_ble_eq_true rfl, Nat.le_of_ble_eq_true rfl, Nat.le_of_ble_eq_true rfl, Nat.le_of_ble_eq_true rfl⟩ rfl (c_takeNumber D (lo := 8) (hi := 60) (by omega)) (fun v9 h9 p9 => ?_)
    obtain ⟨D, e1⟩ := p9
    subst e1
    obtain ⟨k1_, k2_, k3_⟩ := ok9.m_tnm (lo := 8) (hi := 60) (by omega)
    obtain ⟨D0, ok9, t7, t8, t9⟩ := id D
    obtain ⟨g1, C, SM, dl, dn, db, dbr, df, da, dd, dc, dv⟩ := id D0
    obtain ⟨q1, q2, q3, q4, q5, q6, q7⟩ := id ok9
    obtain ⟨e1_, e2_, e3_⟩ := tez_rng (b := b) q1
    change RN 138 30 _ _ _ 0 0 _
    dsimp only [Option.toList, List.cons_append, List.nil_append]
    refine r_iast (hm := hm) (hf := rfl) (h28 := (by omega)) (hs := (by first | assumption | exact (g1.1 _).trans rfl)) (kk := 0) (hi := by omega) (hn := (by omega)) (k := ?_)
    replace D : Rr L h0 _ b n (tnD b n (bgc b n s 0) 8 60 0) := D.pD (k := 0) (v := (tnm b n (bgc b n s 0) 8 60).2) (by omega)
    obtain ⟨D0, ok9, t7, t8, t9⟩ := id D
    obtain ⟨g1, C, SM, dl, dn, db, dbr, df, da, dd, dc, dv⟩ := id D0
    obtain ⟨q1, q2, q3, q4, q5, q6, q7⟩ := id ok9
    obtain ⟨e1_, e2_, e3_⟩ := tez_rng (b := b) q1
    refine r_aload_n hm rfl (k := ?_)
    refine r_ldc hm rfl rfl (hd := rfl) (k := ?_)
    refine r_callv (j2 := 152) hm rfl rfl rfl rfl rfl rfl (by first | assumption | exact (g1.1 _).trans rfl) (Nat.le_of_ble_eq_true rfl) (Nat.le_of_ble_eq_true rfl) rfl ⟨Nat.le_of_ble_eq_true rfl, Nat.le_of_ble_eq_true rfl, Nat.le_of_ble_eq_true rfl, Nat.le_of_ble_eq_true rfl, Nat.le_of_ble_eq_true rfl⟩ rfl (c_takeWord D (i := 1) (by omega)) (fun v9 h9 p9 => ?_)
    obtain ⟨D, e1⟩ := p9
    subst e1
    obtain ⟨D0, ok9, t7, t8, t9⟩ := id D
    obtain ⟨g1, C, SM, dl, dn, db, dbr, df, da, dd, dc, dv⟩ := id D0
    obtain ⟨q1, q2, q3, q4, q5, q6, q7⟩ := id ok9
    obtain ⟨e1_, e2_, e3_⟩ := tez_rng (b := b) q1
    change RN 138 37 _ _ _ 0 0 _
    dsimp only [Option.toList, List.nil_append]
    refine r_aload_n hm rfl (k := ?_)
    refine r_getR (hm := hm) (hf := rfl) (hd := rfl) (hs := (by first | assumption | exact (g1.1 _).trans rfl)) (hv := (by first | assumption | exact g1.2 _ _ _ rfl | exact db _ (by omega) | exact dd _ (by omega) | exact dc _ (by omega) | exact dv _ (by omega))) (k := ?_)
    refine r_getR (hm := hm) (hf := rfl) (hd := rfl) (hs := (by first | assumption | exact (g1.1 _).trans rfl)) (hv := (by first | assumption | exact g1.2 _ _ _ rfl | exact db _ (by omega) | exact dd _ (by omega) | exact dc _ (by omega) | exact dv _ (by omega))) (k := ?_)
    refine r_iconst hm rfl (k := ?_)
    refine r_aload_n hm rfl (k := ?_)
    refine r_bipush hm rfl (k := ?_)
    refine r_bipush hm rfl (k := ?_)
    refine r_callv (j2 := 150) hm rfl rfl rfl rfl rfl rfl (by first | assumption | exact (g1.1 _).trans rfl) (Nat.le_of_ble_eq_true rfl) (Nat.le_of_ble_eq_true rfl) rfl ⟨Nat.le_of_ble_eq_true rfl, Nat.le_of_ble_eq_true rfl, Nat.le_of_ble_eq_true rfl, Nat.le_of_ble_eq_true rfl, Nat.le_of_ble_eq_true rfl⟩ rfl (c_takeNumber D (lo := 10) (hi := 90) (by omega)) (fun v9 h9 p9 => ?_)
    obtain ⟨D, e1⟩ := p9
    subst e1
    obtain ⟨k1_, k2_, k3_⟩ := ok9.m_tnm (lo := 10) (hi := 90) (by omega)
    obtain ⟨D0, ok9, t7, t8, t9⟩ := id D
    obtain ⟨g1, C, SM, dl, dn, db, dbr, df, da, dd, dc, dv⟩ := id D0
    obtain ⟨q1, q2, q3, q4, q5, q6, q7⟩ := id ok9
    obtain ⟨e1_, e2_, e3_⟩ := tez_rng (b := b) q1
    change RN 138 53 _ _ _ 0 0 _
    dsimp only [Option.toList, List.cons_append, List.nil_append]
    refine r_iast (hm := hm) (hf := rfl) (h28 := (by omega)) (hs := (by first | assumption | exact (g1.1 _).trans rfl)) (kk := 1) (hi := by omega) (hn := (by omega)) (k := ?_)
    replace D : Rr L h0 _ b n (tnD b n (twd b n (tnD b n (bgc b n s 0) 8 60 0) 1) 10 90 1) := D.pD (k := 1) (v := (tnm b n (twd b n (tnD b n (bgc b n s 0) 8 60 0) 1) 10 90).2) (by omega)
    obtain ⟨D0, ok9, t7, t8, t9⟩ := id D
    obtain ⟨g1, C, SM, dl, dn, db, dbr, df, da, dd, dc, dv⟩ := id D0
    obtain ⟨q1, q2, q3, q4, q5, q6, q7⟩ := id ok9
    obtain ⟨e1_, e2_, e3_⟩ := tez_rng (b := b) q1
    refine r_goto (t := 181) hm rfl (k := ?_)
    refine r_aload_n hm rfl (k := ?_)
    refine r_callv (j2 := 156) hm rfl rfl rfl rfl rfl rfl (by first | assumption | exact (g1.1 _).trans rfl) (Nat.le_of_ble_eq_true rfl) (Nat.le_of_ble_eq_true rfl) rfl ⟨Nat.le_of_ble_eq_true rfl, Nat.le_of_ble_eq_true rfl, Nat.le_of_ble_eq_true rfl, Nat.le_of_ble_eq_true rfl, Nat.le_of_ble_eq_true rfl⟩ rfl (c_takeSemi D) (fun v9 h9 p9 => ?_)
    obtain ⟨D, e1⟩ := p9
    subst e1
    obtain ⟨D0, ok9, t7, t8, t9⟩ := id D
    obtain ⟨g1, C, SM, dl, dn, db, dbr, df, da, dd, dc, dv⟩ := id D0
    obtain ⟨q1, q2, q3, q4, q5, q6, q7⟩ := id ok9
    obtain ⟨e1_, e2_, e3_⟩ := tez_rng (b := b) q1
    change RN 138 185 _ _ _ 0 0 _
    dsimp only [Option.toList, List.nil_append]
    refine r_return hm rfl rfl (Nat.le_of_ble_eq_true rfl) (Nat.le_of_ble_eq_true rfl) ?_
    have w6 := bw1.mp c6
    unfold pcl
    rw [if_pos w6]
    exact ⟨D, rfl⟩
