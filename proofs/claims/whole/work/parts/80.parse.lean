/-! the style read: the class, to its end -/
set_option maxRecDepth 8000 in
theorem c_becomeFirst {h : Hp} {s : Nat} (a1 : h.1[s]? = some (2, 1)) (a2 : h.1[s + 1]? = some (100, 13)) (a3 : h.2.2.1 s 0 = some (s + 1)) (h28 : 28 ≤ s + 1) : RN 4 0 [some (.inr (.inr (some (s))))] [] h 0 0 (fun v h2 => Sm (fun a _ => a = s + 1) h h2 ∧ (∀ k, k < 13 → h2.2.1 (s + 1) k = sty0 k) ∧ v = none) := by
  have hm : mrec 4 = some nM4 := rfl
  refine r_aload_n hm rfl (k := ?_)
  refine r_getR (hm := hm) (hf := rfl) (hd := rfl) (hs := (by first | assumption)) (hv := (by first | assumption)) (k := ?_)
  refine r_iconst hm rfl (k := ?_)
  refine r_calls (j2 := 5) hm rfl rfl rfl rfl rfl rfl (Nat.le_of_ble_eq_true rfl) (Nat.le_of_ble_eq_true rfl) rfl ⟨Nat.le_of_ble_eq_true rfl, Nat.le_of_ble_eq_true rfl, Nat.le_of_ble_eq_true rfl, Nat.le_of_ble_eq_true rfl, Nat.le_of_ble_eq_true rfl⟩ rfl (j_fill a2 h28 (by omega)) (fun v9 h9 p9 => ?_)
  obtain ⟨e1, e2⟩ := p9
  subst e2
  subst e1
  change RN 4 8 _ _ _ 0 0 _
  dsimp only [Option.toList, List.nil_append]
  refine r_aload_n hm rfl (k := ?_)
  refine r_getR (hm := hm) (hf := rfl) (hd := rfl) (hs := (by first | assumption)) (hv := (by first | assumption)) (k := ?_)
  refine r_iconst hm rfl (k := ?_)
  refine r_bipush hm rfl (k := ?_)
  refine r_iast (hm := hm) (hf := rfl) (h28 := (by omega)) (hs := (by first | assumption)) (kk := 0) (hi := by omega) (hn := (by omega)) (k := ?_)
  refine r_aload_n hm rfl (k := ?_)
  refine r_getR (hm := hm) (hf := rfl) (hd := rfl) (hs := (by first | assumption)) (hv := (by first | assumption)) (k := ?_)
  refine r_iconst hm rfl (k := ?_)
  refine r_bipush hm rfl (k := ?_)
  refine r_iast (hm := hm) (hf := rfl) (h28 := (by omega)) (hs := (by first | assumption)) (kk := 1) (hi := by omega) (hn := (by omega)) (k := ?_)
  refine r_aload_n hm rfl (k := ?_)
  refine r_getR (hm := hm) (hf := rfl) (hd := rfl) (hs := (by first | assumption)) (hv := (by first | assumption)) (k := ?_)
  refine r_bipush hm rfl (k := ?_)
  refine r_bipush hm rfl (k := ?_)
  refine r_iconst hm rfl (k := ?_)
  refine r_calls (j2 := 6) hm rfl rfl rfl rfl rfl rfl (Nat.le_of_ble_eq_true rfl) (Nat.le_of_ble_eq_true rfl) rfl ⟨Nat.le_of_ble_eq_true rfl, Nat.le_of_ble_eq_true rfl, Nat.le_of_ble_eq_true rfl, Nat.le_of_ble_eq_true rfl, Nat.le_of_ble_eq_true rfl⟩ rfl (j_fill4 (lo := 6) (hi := 10) a2 h28 (by omega) (by omega) (by omega)) (fun v9 h9 p9 => ?_)
  obtain ⟨e1, e2⟩ := p9
  subst e2
  subst e1
  change RN 4 36 _ _ _ 0 0 _
  dsimp only [Option.toList, List.nil_append]
  refine r_return hm rfl rfl (Nat.le_of_ble_eq_true rfl) (Nat.le_of_ble_eq_true rfl) ?_
  refine ⟨Sm.fil (Sm.put (Sm.put (Sm.fil Sm.refl (fun k _ _ => rfl)) rfl) rfl) (fun k _ _ => rfl), fun k hk => ?_, rfl⟩
  show (if s + 1 = s + 1 ∧ 6 ≤ k ∧ k < 10 then (1 : Int) else (putI (putI (filI h (s + 1) 0 13 0) (s + 1) 0 20) (s + 1) 1 40).2.1 (s + 1) k) = sty0 k
  unfold sty0
  by_cases k6 : 6 ≤ k ∧ k < 10
  · rw [if_pos ⟨rfl, k6⟩, if_neg (by omega), if_neg (by omega), if_pos k6]
  · rw [if_neg (fun z => k6 z.2), if_neg k6]
    by_cases k1 : k = 1
    · rw [k1, putI_eq]; rfl
    · rw [putI_ne (by omega)]
      by_cases k0 : k = 0
      · rw [k0, putI_eq]; rfl
      · rw [putI_ne (by omega), if_neg k0, if_neg k1]
        exact if_pos ⟨rfl, by omega, by omega⟩
set_option maxRecDepth 8000 in
theorem c_begin {L : Nat} {h : Hp} {b : Nat → Int} {n : Nat} (g : GG L h) (C : CN h) (hl : h.2.1 347 1 = (n : Int)) (hn : n ≤ 160) (hb : ∀ k, k < n → h.2.1 350 k = b k) (hbr : ∀ k, k < n → 0 ≤ b k ∧ b k ≤ 255) : RN 135 0 [some (.inr (.inr (some (347)))), none] [] h 0 0 (fun v h2 => Rr L h h2 b n (stt b n) ∧ v = none) := by
  have hm : mrec 135 = some nM135 := rfl
  have g1 := g
  refine r_aload_n hm rfl (k := ?_)
  refine r_getR (hm := hm) (hf := rfl) (hd := rfl) (hs := (by first | assumption | exact (g1.1 _).trans rfl)) (hv := (by first | assumption | exact g1.2 _ _ _ rfl)) (k := ?_)
  refine r_callv (j2 := 4) hm rfl rfl rfl rfl rfl rfl (by first | assumption | exact (g1.1 _).trans rfl) (Nat.le_of_ble_eq_true rfl) (Nat.le_of_ble_eq_true rfl) rfl ⟨Nat.le_of_ble_eq_true rfl, Nat.le_of_ble_eq_true rfl, Nat.le_of_ble_eq_true rfl, Nat.le_of_ble_eq_true rfl, Nat.le_of_ble_eq_true rfl⟩ rfl (c_becomeFirst (s := 348) ((g.1 _).trans rfl) ((g.1 _).trans rfl) (g.2 _ _ _ rfl) (by omega)) (fun v9 h9 p9 => ?_)
  obtain ⟨SA, eA, e1⟩ := p9
  subst e1
  replace g1 := SA.gg g
  change RN 135 7 _ _ _ 0 0 _
  dsimp only [Option.toList, List.nil_append]
  refine r_aload_n hm rfl (k := ?_)
  refine r_iconst hm rfl (k := ?_)
  refine r_putI (hm := hm) (hf := rfl) (hd := rfl) (hs := (by first | assumption | exact (g1.1 _).trans rfl)) (hfin := Or.inl rfl) (hz := fun q9 => absurd q9 (by decide)) (k := ?_)
  refine r_aload_n hm rfl (k := ?_)
  refine r_iconst hm rfl (k := ?_)
  refine r_putI (hm := hm) (hf := rfl) (hd := rfl) (hs := (by first | assumption | exact (g1.1 _).trans rfl)) (hfin := Or.inl rfl) (hz := fun q9 => absurd q9 (by decide)) (k := ?_)
  refine r_iconst hm rfl (k := ?_)
  refine r_istore_n hm rfl (k := ?_)
  suffices LP : ∀ (d c : Nat) (h1 : Hp), c + d = 4 → Sm regR h h1 → h1.2.1 347 2 = 0 → h1.2.1 347 3 = -1 → (∀ k, k < 13 → h1.2.1 349 k = sty0 k) → (∀ k, k < c → h1.2.1 351 k = 0) → RN 135 19 [some (.inr (.inr (some (347)))), some (.inl (c : Int))] [] h1 0 0 (fun v h2 => Rr L h h2 b n (stt b n) ∧ v = none) from LP 4 0 _ (by omega) (Sm.put (Sm.put (SA.mono (fun a k z => by unfold regR; omega)) (by unfold regR; omega)) (by unfold regR; omega)) (by rw [putI_ne (by omega), putI_eq]) putI_eq (fun k hk => by rw [putI_ne (by omega), putI_ne (by omega)]; exact eA k hk) (fun k hk => absurd hk (Nat.not_lt_zero _))
  refine fun d => Nat.strongRecOn d (fun d ih => ?_)
  intro c h1 hd S1 f1 f2 f3 f4
  replace g1 := S1.gg g
  refine r_iload_n hm rfl (k := ?_)
  refine r_iconst hm rfl (k := ?_)
  refine r_icmp_ge (t := 37) hm rfl rfl (fun c21 => ?_) (fun c21 => ?_)
  · refine r_iconst hm rfl (k := ?_)
    refine r_istore_n hm rfl (k := ?_)
    suffices LP2 : ∀ (d c : Nat) (h1 : Hp), c + d = 5 → Sm regR h h1 → h1.2.1 347 2 = 0 → h1.2.1 347 3 = -1 → (∀ k, k < 13 → h1.2.1 349 k = sty0 k) → (∀ k, k < 4 → h1.2.1 351 k = 0) → (∀ k, k < c → h1.2.1 352 k = 0) → RN 135 39 [some (.inr (.inr (some (347)))), some (.inl (c : Int))] [] h1 0 0 (fun v h2 => Rr L h h2 b n (stt b n) ∧ v = none) from LP2 5 0 _ (by omega) S1 f1 f2 f3 (fun k hk => f4 k (by omega)) (fun k hk => absurd hk (Nat.not_lt_zero _))
    clear ih f1 f2 f3 f4 S1 hd
    refine fun d => Nat.strongRecOn d (fun d ih => ?_)
    intro c h1 hd S1 f1 f2 f3 f4 f5
    replace g1 := S1.gg g
    refine r_iload_n hm rfl (k := ?_)
    refine r_iconst hm rfl (k := ?_)
    refine r_icmp_gt (t := 57) hm rfl rfl (fun c41 => ?_) (fun c41 => ?_)
    · refine r_aload_n hm rfl (k := ?_)
      refine r_iconst hm rfl (k := ?_)
      refine r_putI (hm := hm) (hf := rfl) (hd := rfl) (hs := (by first | assumption | exact (g1.1 _).trans rfl)) (hfin := Or.inl rfl) (hz := fun q9 => absurd q9 (by decide)) (k := ?_)
      have D9 : R0 L h (putI h1 347 9 0) b n (stt b n) := by
        have S2 : Sm regR h (putI h1 347 9 0) := Sm.put S1 (by unfold regR; omega)
        refine ⟨S2.gg g, S2.cn (fun a k z => by unfold regR at z; omega) C, S2, ?_, hn, fun k hk => ?_, hbr, ?_, ?_, fun k hk => ?_, fun k hk => ?_, fun k hk => ?_⟩
        · rw [S2.2.2 _ _ (by unfold regR; omega)]; exact hl
        · rw [S2.2.2 _ _ (by unfold regR; omega)]; exact hb k hk
        · rw [putI_ne (by omega)]; exact f1
        · rw [putI_ne (by omega)]; exact f2
        · rw [putI_ne (by omega)]; exact f3 k hk
        · rw [putI_ne (by omega)]; exact f4 k hk
        · rw [putI_ne (by omega)]; exact f5 k (by omega)
      refine r_aload_n hm rfl (k := ?_)
      refine r_callv (j2 := 136) hm rfl rfl rfl rfl rfl rfl (by first | assumption | exact (g1.1 _).trans rfl) (Nat.le_of_ble_eq_true rfl) (Nat.le_of_ble_eq_true rfl) rfl ⟨Nat.le_of_ble_eq_true rfl, Nat.le_of_ble_eq_true rfl, Nat.le_of_ble_eq_true rfl, Nat.le_of_ble_eq_true rfl, Nat.le_of_ble_eq_true rfl⟩ rfl (c_advance (p := 0) D9 okR.m_stt (Nat.zero_le _) putI_eq) (fun v9 h9 p9 => ?_)
      obtain ⟨D, e1⟩ := p9
      subst e1
      change RN 135 66 _ _ _ 0 0 _
      dsimp only [Option.toList, List.nil_append]
      refine r_return hm rfl rfl (Nat.le_of_ble_eq_true rfl) (Nat.le_of_ble_eq_true rfl) ?_
      exact ⟨D, rfl⟩
    · refine r_aload_n hm rfl (k := ?_)
      refine r_getR (hm := hm) (hf := rfl) (hd := rfl) (hs := (by first | assumption | exact (g1.1 _).trans rfl)) (hv := (by first | assumption | exact g1.2 _ _ _ rfl)) (k := ?_)
      refine r_iload_n hm rfl (k := ?_)
      refine r_iconst hm rfl (k := ?_)
      refine r_bast (hm := hm) (hf := rfl) (hz := by omega) (h28 := (by omega)) (hs := (by first | assumption | exact (g1.1 _).trans rfl)) (kk := c) (hi := by omega) (hn := (by omega)) (k := ?_)
      refine r_iinc hm rfl (hr := (by omega)) (k := ?_)
      refine r_goto (t := 39) hm rfl (k := ?_)
      exact ih (d - 1) (by omega) (c + 1) _ (by omega) (Sm.put S1 (by unfold regR; omega)) (by rw [putI_ne (by omega)]; exact f1) (by rw [putI_ne (by omega)]; exact f2) (fun k hk => by rw [putI_ne (by omega)]; exact f3 k hk) (fun k hk => by rw [putI_ne (by omega)]; exact f4 k hk) (fun k hk => by
        by_cases e : k = c
        · rw [e, putI_eq]
        · rw [putI_ne (by omega)]; exact f5 k (by omega))
  · refine r_aload_n hm rfl (k := ?_)
    refine r_getR (hm := hm) (hf := rfl) (hd := rfl) (hs := (by first | assumption | exact (g1.1 _).trans rfl)) (hv := (by first | assumption | exact g1.2 _ _ _ rfl)) (k := ?_)
    refine r_iload_n hm rfl (k := ?_)
    refine r_iconst hm rfl (k := ?_)
    refine r_bast (hm := hm) (hf := rfl) (hz := by omega) (h28 := (by omega)) (hs := (by first | assumption | exact (g1.1 _).trans rfl)) (kk := c) (hi := by omega) (hn := (by omega)) (k := ?_)
    refine r_iinc hm rfl (hr := (by omega)) (k := ?_)
    refine r_goto (t := 19) hm rfl (k := ?_)
    exact ih (d - 1) (by omega) (c + 1) _ (by omega) (Sm.put S1 (by unfold regR; omega)) (by rw [putI_ne (by omega)]; exact f1) (by rw [putI_ne (by omega)]; exact f2) (fun k hk => by rw [putI_ne (by omega)]; exact f3 k hk) (fun k hk => by
      by_cases e : k = c
      · rw [e, putI_eq]
      · rw [putI_ne (by omega)]; exact f4 k (by omega))
set_option maxRecDepth 8000 in
theorem c_parse {L : Nat} {h : Hp} {b : Nat → Int} {n : Nat} (g : GG L h) (C : CN h) (hl : h.2.1 347 1 = (n : Int)) (hn : n ≤ 160) (hb : ∀ k, k < n → h.2.1 350 k = b k) (hbr : ∀ k, k < n → 0 ≤ b k ∧ b k ≤ 255) : RN 134 0 [some (.inr (.inr (some (347)))), none, none] [] h 0 0 (fun v h2 => ∃ h1, Rr L h h1 b n (prN b n 160 (stt b n) 0).1 ∧ h2 = putI h1 347 1 0 ∧ v = some (.inl (((prN b n 160 (stt b n) 0).2 : Nat) : Int))) := by
  have hm : mrec 134 = some nM134 := rfl
  have g1 := g
  refine r_aload_n hm rfl (k := ?_)
  refine r_callv (j2 := 135) hm rfl rfl rfl rfl rfl rfl (by first | assumption | exact (g1.1 _).trans rfl) (Nat.le_of_ble_eq_true rfl) (Nat.le_of_ble_eq_true rfl) rfl ⟨Nat.le_of_ble_eq_true rfl, Nat.le_of_ble_eq_true rfl, Nat.le_of_ble_eq_true rfl, Nat.le_of_ble_eq_true rfl, Nat.le_of_ble_eq_true rfl⟩ rfl (c_begin g C hl hn hb hbr) (fun v9 h9 p9 => ?_)
  obtain ⟨D, e1⟩ := p9
  subst e1
  change RN 134 4 _ _ _ 0 0 _
  dsimp only [Option.toList, List.nil_append]
  refine r_iconst hm rfl (k := ?_)
  refine r_istore_n hm rfl (k := ?_)
  refine r_iconst hm rfl (k := ?_)
  refine r_istore_n hm rfl (k := ?_)
  suffices LP : ∀ (d c : Nat) (h1 : Hp) (s : Rd), c + d = 160 → Rr L h h1 b n s → prN b n d s c = prN b n 160 (stt b n) 0 → RN 134 8 [some (.inr (.inr (some (347)))), some (.inl (c : Int)), some (.inl (c : Int))] [] h1 0 0 (fun v h2 => ∃ h1, Rr L h h1 b n (prN b n 160 (stt b n) 0).1 ∧ h2 = putI h1 347 1 0 ∧ v = some (.inl (((prN b n 160 (stt b n) 0).2 : Nat) : Int))) from LP 160 0 _ _ (by omega) D rfl
  refine fun d => Nat.strongRecOn d (fun d ih => ?_)
  intro c h1 s hd D eP
  obtain ⟨D0, ok9, t7, t8, t9⟩ := id D
  obtain ⟨g1, C, SM, dl, dn, db, dbr, df, da, dd, dc, dv⟩ := id D0
  obtain ⟨q1, q2, q3, q4, q5, q6, q7⟩ := id ok9
  obtain ⟨e1_, e2_, e3_⟩ := tez_rng (b := b) q1
  refine r_iload_n hm rfl (k := ?_)
  refine r_sipush hm rfl (k := ?_)
  refine r_icmp_ge (t := 42) hm rfl rfl (fun c12 => ?_) (fun c12 => ?_)
  · refine r_aload_n hm rfl (k := ?_)
    refine r_iconst hm rfl (k := ?_)
    refine r_putI (hm := hm) (hf := rfl) (hd := rfl) (hs := (by first | assumption | exact (g1.1 _).trans rfl)) (hfin := Or.inl rfl) (hz := fun q9 => absurd q9 (by decide)) (k := ?_)
    refine r_iload_n hm rfl (k := ?_)
    refine r_ireturn hm rfl rfl (by rfl) (Nat.le_of_ble_eq_true rfl) (Nat.le_of_ble_eq_true rfl) ?_
    have d0 : d = 0 := by omega
    subst d0
    have e0 : (s, c) = prN b n 160 (stt b n) 0 := eP
    rw [← e0]
    exact ⟨h1, D, rfl, rfl⟩
  · refine r_aload_n hm rfl (k := ?_)
    refine r_getI (hm := hm) (hf := rfl) (hd := rfl) (hs := (by first | assumption | exact (g1.1 _).trans rfl)) (hv := (by first | assumption | exact g1.2 _ _ _ rfl | exact db _ (by omega) | exact dd _ (by omega) | exact dc _ (by omega) | exact dv _ (by omega))) (k := ?_)
    refine r_if_eq (t := 42) hm rfl rfl (fun c19 => ?_) (fun c19 => ?_)
    · refine r_aload_n hm rfl (k := ?_)
      refine r_iconst hm rfl (k := ?_)
      refine r_putI (hm := hm) (hf := rfl) (hd := rfl) (hs := (by first | assumption | exact (g1.1 _).trans rfl)) (hfin := Or.inl rfl) (hz := fun q9 => absurd q9 (by decide)) (k := ?_)
      refine r_iload_n hm rfl (k := ?_)
      refine r_ireturn hm rfl rfl (by rfl) (Nat.le_of_ble_eq_true rfl) (Nat.le_of_ble_eq_true rfl) ?_
      have e0 : (s, c) = prN b n 160 (stt b n) 0 := by rw [← eP, prN_go (by omega), if_pos (Or.inl c19)]
      rw [← e0]
      exact ⟨h1, D, rfl, rfl⟩
    · refine r_aload_n hm rfl (k := ?_)
      refine r_getI (hm := hm) (hf := rfl) (hd := rfl) (hs := (by first | assumption | exact (g1.1 _).trans rfl)) (hv := (by first | assumption | exact g1.2 _ _ _ rfl | exact db _ (by omega) | exact dd _ (by omega) | exact dc _ (by omega) | exact dv _ (by omega))) (k := ?_)
      refine r_if_ne (t := 42) hm rfl rfl (fun c26 => ?_) (fun c26 => ?_)
      · refine r_aload_n hm rfl (k := ?_)
        refine r_iconst hm rfl (k := ?_)
        refine r_putI (hm := hm) (hf := rfl) (hd := rfl) (hs := (by first | assumption | exact (g1.1 _).trans rfl)) (hfin := Or.inl rfl) (hz := fun q9 => absurd q9 (by decide)) (k := ?_)
        refine r_iload_n hm rfl (k := ?_)
        refine r_ireturn hm rfl rfl (by rfl) (Nat.le_of_ble_eq_true rfl) (Nat.le_of_ble_eq_true rfl) ?_
        have e0 : (s, c) = prN b n 160 (stt b n) 0 := by rw [← eP, prN_go (by omega), if_pos (Or.inr c26)]
        rw [← e0]
        exact ⟨h1, D, rfl, rfl⟩
      · refine r_aload_n hm rfl (k := ?_)
        refine r_callv (j2 := 138) hm rfl rfl rfl rfl rfl rfl (by first | assumption | exact (g1.1 _).trans rfl) (Nat.le_of_ble_eq_true rfl) (Nat.le_of_ble_eq_true rfl) rfl ⟨Nat.le_of_ble_eq_true rfl, Nat.le_of_ble_eq_true rfl, Nat.le_of_ble_eq_true rfl, Nat.le_of_ble_eq_true rfl, Nat.le_of_ble_eq_true rfl⟩ rfl (c_parseClause D) (fun v9 h9 p9 => ?_)
        obtain ⟨D, e1⟩ := p9
        subst e1
        change RN 134 33 _ _ _ 0 0 _
        dsimp only [Option.toList, List.nil_append]
        refine r_iinc hm rfl (hr := (by omega)) (k := ?_)
        refine r_iinc hm rfl (hr := (by omega)) (k := ?_)
        refine r_goto (t := 8) hm rfl (k := ?_)
        have k0 := prN_go (b := b) (n := n) (d := d) (s := s) (c := c) (by omega)
        rw [if_neg (fun z => by rcases z with z | z; exact c19 (by rw [← z]); exact z (Decidable.not_not.mp c26))] at k0
        exact ih (d - 1) (by omega) (c + 1) _ _ (by omega) D (by rw [← eP, k0])
set_option maxRecDepth 8000 in
theorem c_read {L : Nat} {h : Hp} {S : St} (I : InvC L h S) (ok : okS S) : RN 133 0 [some (.inr (.inr (some (28)))), none] [] h 0 0 (fun v h2 => InvC L h2 (oRead S) ∧ FxC h h2 ∧ v = some (.inl (aRead S))) := by
  have hm : mrec 133 = some nM133 := rfl
  obtain ⟨g, C, hR, hV, hK, hG, hSt, hL, hB, hFl⟩ := id I
  have hok := ok.1
  have ht : isT 29 := Or.inl rfl
  obtain ⟨T1, T2, T3, T4, T5, T6, T7⟩ := g.tx ht
  obtain ⟨I0, I1, I2, I3, I4, J0, J1, J2, F0, F1, F2, F3, F4, P0, P1, P2⟩ := hR.use g ht
  obtain ⟨R1, R2, R3, R4, R5, R6, R7⟩ := id hR
  have n60 := hok.1
  have g1 := g
  refine r_aload_n hm rfl (k := ?_)
  refine r_getR (hm := hm) (hf := rfl) (hd := rfl) (hs := (by first | assumption | exact (g1.1 _).trans rfl | exact I1 _ (by omega) | exact I2 _ (by omega) | exact I3 _ (by omega) | exact I4 _ (by omega))) (hv := (by first | exact df2 | assumption | exact g1.2 _ _ _ rfl)) (k := ?_)
  refine r_callv (j2 := 134) hm rfl rfl rfl rfl rfl rfl (by first | assumption | exact (g1.1 _).trans rfl | exact I1 _ (by omega) | exact I2 _ (by omega) | exact I3 _ (by omega) | exact I4 _ (by omega)) (Nat.le_of_ble_eq_true rfl) (Nat.le_of_ble_eq_true rfl) rfl ⟨Nat.le_of_ble_eq_true rfl, Nat.le_of_ble_eq_true rfl, Nat.le_of_ble_eq_true rfl, Nat.le_of_ble_eq_true rfl, Nat.le_of_ble_eq_true rfl⟩ rfl (c_parse g C hL ok.2.2.2.2.2.2.1 hB ok.2.2.2.2.2.2.2) (fun v9 h9 p9 => ?_)
  obtain ⟨hB_, D, e1, e2⟩ := p9
  subst e2
  subst e1
  obtain ⟨D0, ok9, -, -, -⟩ := id D
  obtain ⟨g1, C1, SM, dl, dn, db, dbr, df, da, dd, dc, dv⟩ := id D0
  have S1 : Sm regR h hB_ := SM
  have eE : prN S.2.2.2.2.2.1 S.2.2.2.2.1 160 (stt S.2.2.2.2.2.1 S.2.2.2.2.1) 0 = rdE S := rfl
  rw [eE] at D ok9 df da dd dc dv
  rw [eE]
  have n160 : (rdE S).2 ≤ 160 := by have := (okR.m_prN (b := S.2.2.2.2.2.1) (n := S.2.2.2.2.1) 160 (stt S.2.2.2.2.2.1 S.2.2.2.2.1) 0 okR.m_stt).2; rw [eE] at this; omega
  have eI : ∀ a k, ¬ (regR a k ∨ (a = 347 ∧ k = 1)) → (putI hB_ 347 1 0).2.1 a k = h.2.1 a k := fun a k z => by rw [putI_ne (by omega)]; exact S1.2.2 a k (fun y => z (Or.inl y))
  have eR : ∀ a k, (putI hB_ 347 1 0).2.2.1 a k = h.2.2.1 a k := fun a k => by show hB_.2.2.1 a k = _; rw [S1.2.1]
  have df2 : (putI hB_ 347 1 0).2.1 347 2 = ((rdE S).1).2.1 := by rw [putI_ne (by omega)]; exact df
  have g2 : GG L (putI hB_ 347 1 0) := g1
  replace g1 := g2
  obtain ⟨-, -, q3, q4, -⟩ := id ok9
  change RN 133 7 _ _ _ 0 0 _
  dsimp only [Option.toList, List.cons_append, List.nil_append]
  refine r_istore_n hm rfl (k := ?_)
  refine r_aload_n hm rfl (k := ?_)
  refine r_getR (hm := hm) (hf := rfl) (hd := rfl) (hs := (by first | assumption | exact (g1.1 _).trans rfl | exact I1 _ (by omega) | exact I2 _ (by omega) | exact I3 _ (by omega) | exact I4 _ (by omega))) (hv := (by first | exact df2 | assumption | exact g1.2 _ _ _ rfl)) (k := ?_)
  refine r_getI (hm := hm) (hf := rfl) (hd := rfl) (hs := (by first | assumption | exact (g1.1 _).trans rfl | exact I1 _ (by omega) | exact I2 _ (by omega) | exact I3 _ (by omega) | exact I4 _ (by omega))) (hv := (by first | exact df2 | assumption | exact g1.2 _ _ _ rfl)) (k := ?_)
  refine r_if_eq (t := 29) hm rfl rfl (fun c15 => ?_) (fun c15 => ?_)
  · refine r_aload_n hm rfl (k := ?_)
    refine r_getR (hm := hm) (hf := rfl) (hd := rfl) (hs := (by first | assumption | exact (g1.1 _).trans rfl | exact I1 _ (by omega) | exact I2 _ (by omega) | exact I3 _ (by omega) | exact I4 _ (by omega))) (hv := (by first | exact df2 | assumption | exact g1.2 _ _ _ rfl)) (k := ?_)
    refine r_getR (hm := hm) (hf := rfl) (hd := rfl) (hs := (by first | assumption | exact (g1.1 _).trans rfl | exact I1 _ (by omega) | exact I2 _ (by omega) | exact I3 _ (by omega) | exact I4 _ (by omega))) (hv := (by first | exact df2 | assumption | exact g1.2 _ _ _ rfl)) (k := ?_)
    refine r_aload_n hm rfl (k := ?_)
    refine r_getR (hm := hm) (hf := rfl) (hd := rfl) (hs := (by first | assumption | exact (g1.1 _).trans rfl | exact I1 _ (by omega) | exact I2 _ (by omega) | exact I3 _ (by omega) | exact I4 _ (by omega))) (hv := (by first | exact df2 | assumption | exact g1.2 _ _ _ rfl)) (k := ?_)
    refine r_getR (hm := hm) (hf := rfl) (hd := rfl) (hs := (by first | assumption | exact (g1.1 _).trans rfl | exact I1 _ (by omega) | exact I2 _ (by omega) | exact I3 _ (by omega) | exact I4 _ (by omega))) (hv := (by first | exact df2 | assumption | exact g1.2 _ _ _ rfl)) (k := ?_)
    refine r_callv (j2 := 121) hm rfl rfl rfl rfl rfl rfl (by first | assumption | exact (g1.1 _).trans rfl | exact I1 _ (by omega) | exact I2 _ (by omega) | exact I3 _ (by omega) | exact I4 _ (by omega)) (Nat.le_of_ble_eq_true rfl) (Nat.le_of_ble_eq_true rfl) rfl ⟨Nat.le_of_ble_eq_true rfl, Nat.le_of_ble_eq_true rfl, Nat.le_of_ble_eq_true rfl, Nat.le_of_ble_eq_true rfl, Nat.le_of_ble_eq_true rfl⟩ rfl (c_styBecome (s1 := 31) (s2 := 348) ((g2.1 _).trans rfl) ((g2.1 _).trans rfl) (g2.2 _ _ _ rfl) ((g2.1 _).trans rfl) ((g2.1 _).trans rfl) (g2.2 _ _ _ rfl) (by omega) (by omega)) (fun v9 h9 p9 => ?_)
    obtain ⟨e0, e1⟩ := p9
    subst e1
    have SB : Sm (fun a _ => a = 32) (putI hB_ 347 1 0) h9 := by rw [e0]; exact ⟨rfl, rfl, fun a k z => if_neg (fun y => z y.1)⟩
    have eSt : ∀ k, k < 13 → h9.2.1 32 k = (putI hB_ 347 1 0).2.1 349 k := fun k hk => by
      rw [e0]
      show (if 32 = 32 ∧ 0 ≤ k ∧ k < 0 + 13 then (putI hB_ 347 1 0).2.1 349 (0 + (k - 0)) else _) = _
      rw [if_pos ⟨rfl, by omega, by omega⟩, Nat.zero_add, Nat.sub_zero]
    have g3 := SB.gg g2
    replace g1 := g3
    change RN 133 46 _ _ _ 0 0 _
    dsimp only [Option.toList, List.nil_append]
    refine r_aload_n hm rfl (k := ?_)
    refine r_iconst hm rfl (k := ?_)
    refine r_putI (hm := hm) (hf := rfl) (hd := rfl) (hs := (by first | assumption | exact (g1.1 _).trans rfl | exact I1 _ (by omega) | exact I2 _ (by omega) | exact I3 _ (by omega) | exact I4 _ (by omega))) (hfin := Or.inl rfl) (hz := fun _ => by omega) (k := ?_)
    refine r_iload_n hm rfl (k := ?_)
    refine r_ireturn hm rfl rfl (by rfl) (Nat.le_of_ble_eq_true rfl) (Nat.le_of_ble_eq_true rfl) ?_
    unfold oRead aRead
    rw [if_pos c15, if_pos c15]
    have eJ : ∀ a k, ¬ (regR a k ∨ (a = 347 ∧ k = 1) ∨ (a = 28 ∧ k = 10) ∨ a = 32) → (putI h9 28 10 0).2.1 a k = h.2.1 a k := fun a k z => by
      have z3 : ¬ (a = 28 ∧ k = 10) := fun y => z (Or.inr (Or.inr (Or.inl y)))
      have z4 : a ≠ 32 := fun y => z (Or.inr (Or.inr (Or.inr y)))
      rw [putI_ne (by omega), SB.2.2 a k z4]
      exact eI a k (fun y => z (y.elim Or.inl (fun w => Or.inr (Or.inl w))))
    have eK : ∀ a k, (putI h9 28 10 0).2.2.1 a k = h.2.2.1 a k := fun a k => by show h9.2.2.1 a k = _; rw [SB.2.1]; exact eR a k
    refine ⟨⟨g3, C.fr (fun a k e => eK a k) (fun a k e => eJ a k (by unfold regR; omega)), ?_, fun u hu => (hV u hu).fr (fun i => eK _ _) (fun a k e1 e2 => eJ a k (by unfold regR; omega)), fun u hu => (eJ _ _ (by unfold regR; omega)).trans (hK u hu), (eJ _ _ (by unfold regR; omega)).trans hG, Or.inl putI_eq, ?_, fun k hk => absurd hk (Nat.not_lt_zero _), ?_⟩, fun a k e => eJ a k (by unfold regR; omega), rfl⟩
    · have ei : ∀ i, itm (putI h9 28 10 0) 29 i = itm h 29 i := fun i => by unfold itm; rw [eK]
      refine ⟨?_, R2, ?_, ?_, ?_, ?_, ?_⟩
      · rw [eJ _ _ (by unfold regR; omega)]; exact R1
      · intro i hi2
        rw [ei, eK]; exact R3 i hi2
      · intro i j hi2 hj
        rw [ei, ei]; exact R4 i j hi2 hj
      · intro f i hf hi2
        have hi3 : i < S.1.1 := hi2
        obtain ⟨q, hq, hx⟩ := (R3 i (by omega)).2
        rw [ei, eJ _ _ (by unfold regR; omega)]; exact R5 f i hf hi2
      · intro f i k hf hi2 hk
        have hi3 : i < S.1.1 := hi2
        obtain ⟨q, hq, hx⟩ := (R3 i (by omega)).2
        rw [ei, eJ _ _ (by unfold regR; omega)]; exact R6 f i k hf hi2 hk
      · intro k hk
        show (putI h9 28 10 0).2.1 32 k = ((rdE S).1).2.2.2.1 k
        rw [putI_ne (by omega), eSt k hk, putI_ne (by omega)]
        exact dd k hk
    · rw [putI_ne (by omega), SB.2.2 _ _ (by omega)]; exact putI_eq
    · rw [putI_ne (by omega), SB.2.2 _ _ (by omega), putI_ne (by omega)]; exact da
  · refine r_bipush hm rfl (k := ?_)
    refine r_aload_n hm rfl (k := ?_)
    refine r_getR (hm := hm) (hf := rfl) (hd := rfl) (hs := (by first | assumption | exact (g1.1 _).trans rfl | exact I1 _ (by omega) | exact I2 _ (by omega) | exact I3 _ (by omega) | exact I4 _ (by omega))) (hv := (by first | exact df2 | assumption | exact g1.2 _ _ _ rfl)) (k := ?_)
    refine r_getI (hm := hm) (hf := rfl) (hd := rfl) (hs := (by first | assumption | exact (g1.1 _).trans rfl | exact I1 _ (by omega) | exact I2 _ (by omega) | exact I3 _ (by omega) | exact I4 _ (by omega))) (hv := (by first | exact df2 | assumption | exact g1.2 _ _ _ rfl)) (k := ?_)
    refine r_isub hm rfl (hr := (by omega)) (k := ?_)
    refine r_ireturn hm rfl rfl (by rfl) (Nat.le_of_ble_eq_true rfl) (Nat.le_of_ble_eq_true rfl) ?_
    unfold oRead aRead
    rw [if_neg c15, if_neg c15]
    refine ⟨⟨g2, C.fr (fun a k e => eR a k) (fun a k e => eI a k (by unfold regR; omega)), hR.fr (fun i => eR _ _) (fun a k e1 e2 => eI a k (by unfold regR; omega)), fun u hu => (hV u hu).fr (fun i => eR _ _) (fun a k e1 e2 => eI a k (by unfold regR; omega)), fun u hu => (eI _ _ (by unfold regR; omega)).trans (hK u hu), (eI _ _ (by unfold regR; omega)).trans hG, ?_, putI_eq, fun k hk => absurd hk (Nat.not_lt_zero _), by rw [putI_ne (by omega)]; exact da⟩, fun a k e => eI a k (by unfold regR; omega), rfl⟩
    rw [eI _ _ (by unfold regR; omega)]
    rcases hSt with e | ⟨e, e2⟩
    · exact Or.inl e
    · exact Or.inr ⟨e, e2.fr (eR _ _) (fun a k e1 e2 => eI a k (by unfold regR; omega))⟩
