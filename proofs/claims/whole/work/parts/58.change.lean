/-! the reference: put, cut, move, mark, piece, drop -/
theorem Rw.ex {h : Hp} {j : Nat} {x : Tx} {q q0 i N : Nat} {nm kd ms : Int} (r : Rw h j x q0) (h0 : q0 ≠ x.1) (e : shI x.1 i q = q0) : Rw h j (pmT (exT x nm kd ms) (shI x.1 i) N) q := by
  have e1 : ∀ f, (pmT (exT x nm kd ms) (shI x.1 i) N).2.1 f q = x.2.1 f q0 := fun f => by
    show (if shI x.1 i q = x.1 then _ else x.2.1 f (shI x.1 i q)) = _
    rw [e, if_neg h0]
  have e2 : ∀ g k, (pmT (exT x nm kd ms) (shI x.1 i) N).2.2.1 g q k = x.2.2.1 g q0 k := fun g k => by
    show x.2.2.1 g (shI x.1 i q) k = _
    rw [e]
  refine ⟨fun f hf => ?_, fun g k hg hk h4 => ?_⟩
  · rw [e1]; exact r.1 f hf
  · rw [e2]; rw [e1] at h4; exact r.2 g k hg hk h4
theorem Rw.cp {h h2 : Hp} {fr to : Nat} {x : Tx} {q : Nat} (r : Rw h fr x q) (h1 : ∀ f, f < 5 → h2.2.1 (1088 + f) to = h.2.1 (1088 + f) fr) (h3 : ∀ g9 k : Nat, g9 < 3 → k < 20 → h2.2.1 (1093 + g9) (20 * to + k) = h.2.1 (1093 + g9) (20 * fr + k)) : Rw h2 to x q := ⟨fun f hf => (h1 f hf).trans (r.1 f hf), fun g k hg hk h4 => (h3 g k hg hk).trans (r.2 g k hg hk h4)⟩
set_option maxHeartbeats 4000000 in
set_option maxRecDepth 8000 in
theorem m_put {L : Nat} {h : Hp} {S : St} (I : InvM L h S) (ok : okS S) {i kd a : Int} (hi0 : inI i) (hk0 : inI kd) (ha0 : inI a) : RN 161 0 [some (.inr (.inr (some 1085))), some (.inl i), some (.inl kd), some (.inl a), none, none, none] [] h 0 0 (fun v h2 => InvM L h2 (oPut S i kd a) ∧ FxM h h2 ∧ v = some (.inl (aPut S i kd a))) := by
  have hm : mrec 161 = some nM161 := rfl
  obtain ⟨g, hR, hV, hK, hG, hL, hB, hFl⟩ := id I
  have hok := ok.1
  obtain ⟨M0, M1, M2, M3, M4, Q0, Q1, Q2, S0, N0, N1⟩ := hR.use
  have n60 := hok.1
  have g1 := g
  have hR1 := hR
  have hH : 8 ≤ S.1.2.2.2 0 ∧ S.1.2.2.2 0 ≤ 60 := by have := hok.2.2.2.2; unfold okStl at this; omega
  have g200 := ok.2.2.2.1
  have MG : ∀ (b4 b5 : Int), ((b4 = 1 ∧ (kd = 0 ∨ kd = 4)) ∨ (b4 = 0 ∧ ¬ (kd = 0 ∨ kd = 4))) → ((b5 = 1 ∧ (kd = 2 ∨ kd = 3)) ∨ (b5 = 0 ∧ ¬ (kd = 2 ∨ kd = 3))) → RN 161 33 [some (.inr (.inr (some 1085))), some (.inl i), some (.inl kd), some (.inl a), some (.inl b4), some (.inl b5), none] [] h 0 0 (fun v h2 => InvM L h2 (oPut S i kd a) ∧ FxM h h2 ∧ v = some (.inl (aPut S i kd a))) := by
    intro b4 b5 hb4 hb5
    refine r_iload_n hm rfl (k := ?_)
    refine r_i2l hm rfl (k := ?_)
    refine r_lconst hm rfl (k := ?_)
    refine r_aload_n hm rfl (k := ?_)
    refine r_getR (hm := hm) (hf := rfl) (hd := rfl) (hs := (by first | assumption | exact (g1.1 _).trans rfl)) (hv := (by first | exact putI_eq | exact (putI_ne (by omega)).trans (by first | exact putI_eq | exact (putI_ne (by omega)).trans (by first | exact putI_eq | exact (putI_ne (by omega)).trans (by first | exact putI_eq | exact (putI_ne (by omega)).trans (by first | exact putI_eq | exact (putI_ne (by omega)).trans (by first | exact putI_eq | exact (putI_ne (by omega)).trans (by first | exact putI_eq | exact (putI_ne (by omega)).trans (by first | first | assumption | exact g1.2 _ _ _ rfl | exact e11 | exact e3) | first | assumption | exact g1.2 _ _ _ rfl | exact e11 | exact e3) | first | assumption | exact g1.2 _ _ _ rfl | exact e11 | exact e3) | first | assumption | exact g1.2 _ _ _ rfl | exact e11 | exact e3) | first | assumption | exact g1.2 _ _ _ rfl | exact e11 | exact e3) | first | assumption | exact g1.2 _ _ _ rfl | exact e11 | exact e3) | first | assumption | exact g1.2 _ _ _ rfl | exact e11 | exact e3) | first | assumption | exact g1.2 _ _ _ rfl | exact e11 | exact e3)) (k := ?_)
    refine r_iconst hm rfl (k := ?_)
    refine r_iald (hm := hm) (hf := rfl) (hs := (by first | assumption | exact (g1.1 _).trans rfl)) (kk := 3) (hi := by omega) (hn := (by omega)) (hv := (by first | exact putI_eq | exact (putI_ne (by omega)).trans (by first | exact putI_eq | exact (putI_ne (by omega)).trans (by first | exact putI_eq | exact (putI_ne (by omega)).trans (by first | exact putI_eq | exact (putI_ne (by omega)).trans (by first | exact putI_eq | exact (putI_ne (by omega)).trans (by first | exact putI_eq | exact (putI_ne (by omega)).trans (by first | exact putI_eq | exact (putI_ne (by omega)).trans (by first | first | assumption | exact g1.2 _ _ _ rfl | exact e11 | exact e3) | first | assumption | exact g1.2 _ _ _ rfl | exact e11 | exact e3) | first | assumption | exact g1.2 _ _ _ rfl | exact e11 | exact e3) | first | assumption | exact g1.2 _ _ _ rfl | exact e11 | exact e3) | first | assumption | exact g1.2 _ _ _ rfl | exact e11 | exact e3) | first | assumption | exact g1.2 _ _ _ rfl | exact e11 | exact e3) | first | assumption | exact g1.2 _ _ _ rfl | exact e11 | exact e3) | first | assumption | exact g1.2 _ _ _ rfl | exact e11 | exact e3)) (k := ?_)
    refine r_i2l hm rfl (k := ?_)
    refine r_calls (j2 := 162) hm rfl rfl rfl rfl rfl rfl (Nat.le_of_ble_eq_true rfl) (Nat.le_of_ble_eq_true rfl) rfl ⟨Nat.le_of_ble_eq_true rfl, Nat.le_of_ble_eq_true rfl, Nat.le_of_ble_eq_true rfl, Nat.le_of_ble_eq_true rfl, Nat.le_of_ble_eq_true rfl⟩ rfl (m_in (z := i) (a := 0) (b := (S.1.1 : Int)) (zL_t hi0) rfl (zL_t ⟨by omega, by omega⟩)) (fun v9 h9 p9 => ?_)
    obtain ⟨e1, e2⟩ := p9
    subst e2
    replace e1 := e1.symm
    subst e1
    obtain ⟨b9, eb9, hb9⟩ := ite01 (p := (0 : Int) ≤ i ∧ i ≤ ((S.1.1 : Int) : Int))
    rw [eb9]
    change RN 161 46 _ _ _ 0 0 _
    dsimp only [Option.toList, List.cons_append, List.nil_append]
    refine r_if_eq (t := 95) hm rfl rfl (fun c46 => ?_) (fun c46 => ?_)
    · refine r_sipush hm rfl (k := ?_)
      refine r_ireturn hm rfl rfl (by rfl) (Nat.le_of_ble_eq_true rfl) (Nat.le_of_ble_eq_true rfl) ?_
      have c9 : ¬ gdPut S i kd a := fun z => by unfold gdPut at z; omega
      unfold oPut aPut
      rw [if_neg (fun z => c9 z.1), if_neg c9]
      exact ⟨I, Sm.refl, rfl⟩
    · refine r_iload_n hm rfl (k := ?_)
      refine r_i2l hm rfl (k := ?_)
      refine r_lconst hm rfl (k := ?_)
      refine r_ldc2 hm rfl (hd := rfl) (k := ?_)
      refine r_calls (j2 := 162) hm rfl rfl rfl rfl rfl rfl (Nat.le_of_ble_eq_true rfl) (Nat.le_of_ble_eq_true rfl) rfl ⟨Nat.le_of_ble_eq_true rfl, Nat.le_of_ble_eq_true rfl, Nat.le_of_ble_eq_true rfl, Nat.le_of_ble_eq_true rfl, Nat.le_of_ble_eq_true rfl⟩ rfl (m_in (z := kd) (a := 0) (b := 6) (zL_t hk0) rfl rfl) (fun v9 h9 p9 => ?_)
      obtain ⟨e1, e2⟩ := p9
      subst e2
      replace e1 := e1.symm
      subst e1
      obtain ⟨b8, eb8, hb8⟩ := ite01 (p := (0 : Int) ≤ kd ∧ kd ≤ (6 : Int))
      rw [eb8]
      change RN 161 58 _ _ _ 0 0 _
      dsimp only [Option.toList, List.cons_append, List.nil_append]
      refine r_if_eq (t := 95) hm rfl rfl (fun c58 => ?_) (fun c58 => ?_)
      · refine r_sipush hm rfl (k := ?_)
        refine r_ireturn hm rfl rfl (by rfl) (Nat.le_of_ble_eq_true rfl) (Nat.le_of_ble_eq_true rfl) ?_
        have c9 : ¬ gdPut S i kd a := fun z => by unfold gdPut at z; omega
        unfold oPut aPut
        rw [if_neg (fun z => c9 z.1), if_neg c9]
        exact ⟨I, Sm.refl, rfl⟩
      · refine r_iload hm rfl (k := ?_)
        refine r_if_eq (t := 78) hm rfl rfl (fun c63 => ?_) (fun c63 => ?_)
        · refine r_iload hm rfl (k := ?_)
          refine r_if_eq (t := 99) hm rfl rfl (fun c80 => ?_) (fun c80 => ?_)
          · have c9 : gdPut S i kd a := by unfold gdPut; omega
            have hi9 : 0 ≤ i ∧ i ≤ (S.1.1 : Int) := by omega
            try clear hb6
            try clear hb7
            clear hb8 hb9
            refine r_aload_n hm rfl (k := ?_)
            refine r_getR (hm := hm) (hf := rfl) (hd := rfl) (hs := (by first | assumption | exact (g1.1 _).trans rfl)) (hv := (by first | exact putI_eq | exact (putI_ne (by omega)).trans (by first | exact putI_eq | exact (putI_ne (by omega)).trans (by first | exact putI_eq | exact (putI_ne (by omega)).trans (by first | exact putI_eq | exact (putI_ne (by omega)).trans (by first | exact putI_eq | exact (putI_ne (by omega)).trans (by first | exact putI_eq | exact (putI_ne (by omega)).trans (by first | exact putI_eq | exact (putI_ne (by omega)).trans (by first | first | assumption | exact g1.2 _ _ _ rfl | exact e11 | exact e3) | first | assumption | exact g1.2 _ _ _ rfl | exact e11 | exact e3) | first | assumption | exact g1.2 _ _ _ rfl | exact e11 | exact e3) | first | assumption | exact g1.2 _ _ _ rfl | exact e11 | exact e3) | first | assumption | exact g1.2 _ _ _ rfl | exact e11 | exact e3) | first | assumption | exact g1.2 _ _ _ rfl | exact e11 | exact e3) | first | assumption | exact g1.2 _ _ _ rfl | exact e11 | exact e3) | first | assumption | exact g1.2 _ _ _ rfl | exact e11 | exact e3)) (k := ?_)
            refine r_iconst hm rfl (k := ?_)
            refine r_iald (hm := hm) (hf := rfl) (hs := (by first | assumption | exact (g1.1 _).trans rfl)) (kk := 3) (hi := by omega) (hn := (by omega)) (hv := (by first | exact putI_eq | exact (putI_ne (by omega)).trans (by first | exact putI_eq | exact (putI_ne (by omega)).trans (by first | exact putI_eq | exact (putI_ne (by omega)).trans (by first | exact putI_eq | exact (putI_ne (by omega)).trans (by first | exact putI_eq | exact (putI_ne (by omega)).trans (by first | exact putI_eq | exact (putI_ne (by omega)).trans (by first | exact putI_eq | exact (putI_ne (by omega)).trans (by first | first | assumption | exact g1.2 _ _ _ rfl | exact e11 | exact e3) | first | assumption | exact g1.2 _ _ _ rfl | exact e11 | exact e3) | first | assumption | exact g1.2 _ _ _ rfl | exact e11 | exact e3) | first | assumption | exact g1.2 _ _ _ rfl | exact e11 | exact e3) | first | assumption | exact g1.2 _ _ _ rfl | exact e11 | exact e3) | first | assumption | exact g1.2 _ _ _ rfl | exact e11 | exact e3) | first | assumption | exact g1.2 _ _ _ rfl | exact e11 | exact e3) | first | assumption | exact g1.2 _ _ _ rfl | exact e11 | exact e3)) (k := ?_)
            refine r_bipush hm rfl (k := ?_)
            refine r_icmp_eq (t := 120) hm rfl rfl (fun c107 => ?_) (fun c107 => ?_)
            · refine r_sipush hm rfl (k := ?_)
              refine r_ireturn hm rfl rfl (by rfl) (Nat.le_of_ble_eq_true rfl) (Nat.le_of_ble_eq_true rfl) ?_
              have c8 : fuPut S := by unfold fuPut; omega
              unfold oPut aPut
              rw [if_neg (fun z => z.2 c8), if_pos c9, if_pos c8]
              exact ⟨I, Sm.refl, rfl⟩
            · refine r_aload_n hm rfl (k := ?_)
              refine r_getI (hm := hm) (hf := rfl) (hd := rfl) (hs := (by first | assumption | exact (g1.1 _).trans rfl)) (hv := (by first | exact putI_eq | exact (putI_ne (by omega)).trans (by first | exact putI_eq | exact (putI_ne (by omega)).trans (by first | exact putI_eq | exact (putI_ne (by omega)).trans (by first | exact putI_eq | exact (putI_ne (by omega)).trans (by first | exact putI_eq | exact (putI_ne (by omega)).trans (by first | exact putI_eq | exact (putI_ne (by omega)).trans (by first | exact putI_eq | exact (putI_ne (by omega)).trans (by first | first | assumption | exact g1.2 _ _ _ rfl | exact e11 | exact e3) | first | assumption | exact g1.2 _ _ _ rfl | exact e11 | exact e3) | first | assumption | exact g1.2 _ _ _ rfl | exact e11 | exact e3) | first | assumption | exact g1.2 _ _ _ rfl | exact e11 | exact e3) | first | assumption | exact g1.2 _ _ _ rfl | exact e11 | exact e3) | first | assumption | exact g1.2 _ _ _ rfl | exact e11 | exact e3) | first | assumption | exact g1.2 _ _ _ rfl | exact e11 | exact e3) | first | assumption | exact g1.2 _ _ _ rfl | exact e11 | exact e3)) (k := ?_)
              refine r_sipush hm rfl (k := ?_)
              refine r_icmp_ne (t := 124) hm rfl rfl (fun c117 => ?_) (fun c117 => ?_)
              · obtain ⟨q, rfl⟩ := Int.eq_ofNat_of_zero_le (show 0 ≤ i by omega)
                refine r_aload_n hm rfl (k := ?_)
                refine r_getR (hm := hm) (hf := rfl) (hd := rfl) (hs := (by first | assumption | exact (g1.1 _).trans rfl)) (hv := (by first | exact putI_eq | exact (putI_ne (by omega)).trans (by first | exact putI_eq | exact (putI_ne (by omega)).trans (by first | exact putI_eq | exact (putI_ne (by omega)).trans (by first | exact putI_eq | exact (putI_ne (by omega)).trans (by first | exact putI_eq | exact (putI_ne (by omega)).trans (by first | exact putI_eq | exact (putI_ne (by omega)).trans (by first | exact putI_eq | exact (putI_ne (by omega)).trans (by first | first | assumption | exact g1.2 _ _ _ rfl | exact e11 | exact e3) | first | assumption | exact g1.2 _ _ _ rfl | exact e11 | exact e3) | first | assumption | exact g1.2 _ _ _ rfl | exact e11 | exact e3) | first | assumption | exact g1.2 _ _ _ rfl | exact e11 | exact e3) | first | assumption | exact g1.2 _ _ _ rfl | exact e11 | exact e3) | first | assumption | exact g1.2 _ _ _ rfl | exact e11 | exact e3) | first | assumption | exact g1.2 _ _ _ rfl | exact e11 | exact e3) | first | assumption | exact g1.2 _ _ _ rfl | exact e11 | exact e3)) (k := ?_)
                refine r_iconst hm rfl (k := ?_)
                refine r_iald (hm := hm) (hf := rfl) (hs := (by first | assumption | exact (g1.1 _).trans rfl)) (kk := 3) (hi := by omega) (hn := (by omega)) (hv := (by first | exact putI_eq | exact (putI_ne (by omega)).trans (by first | exact putI_eq | exact (putI_ne (by omega)).trans (by first | exact putI_eq | exact (putI_ne (by omega)).trans (by first | exact putI_eq | exact (putI_ne (by omega)).trans (by first | exact putI_eq | exact (putI_ne (by omega)).trans (by first | exact putI_eq | exact (putI_ne (by omega)).trans (by first | exact putI_eq | exact (putI_ne (by omega)).trans (by first | first | assumption | exact g1.2 _ _ _ rfl | exact e11 | exact e3) | first | assumption | exact g1.2 _ _ _ rfl | exact e11 | exact e3) | first | assumption | exact g1.2 _ _ _ rfl | exact e11 | exact e3) | first | assumption | exact g1.2 _ _ _ rfl | exact e11 | exact e3) | first | assumption | exact g1.2 _ _ _ rfl | exact e11 | exact e3) | first | assumption | exact g1.2 _ _ _ rfl | exact e11 | exact e3) | first | assumption | exact g1.2 _ _ _ rfl | exact e11 | exact e3) | first | assumption | exact g1.2 _ _ _ rfl | exact e11 | exact e3)) (k := ?_)
                refine r_istore hm rfl (k := ?_)
                suffices LP : ∀ (d k : Nat) (h1 : Hp), k = q + d → k ≤ S.1.1 → Sm (fun a k => (1088 ≤ a ∧ a ≤ 1092 ∧ 180 ≤ k) ∨ (1093 ≤ a ∧ a ≤ 1095 ∧ 3600 ≤ k) ∨ (a = 1086 ∧ k = 3) ∨ (a = 1085 ∧ k = 11)) h h1 → h1.2.1 1085 11 = (S.2.2.2.1 : Int) → h1.2.1 1086 3 = (S.1.1 : Int) → (∀ m, m < k → Rw h1 (180 + m) S.1 m) → (∀ m, k < m → m ≤ S.1.1 → Rw h1 (180 + m) S.1 (m - 1)) → RN 161 132 [some (.inr (.inr (some 1085))), some (.inl (q : Int)), some (.inl kd), some (.inl a), some (.inl b4), some (.inl b5), some (.inl (k : Int))] [] h1 0 0 (fun v h2 => InvM L h2 (oPut S (q : Int) kd a) ∧ FxM h h2 ∧ v = some (.inl (aPut S (q : Int) kd a))) from LP (S.1.1 - q) S.1.1 h (by omega) (Nat.le_refl _) Sm.refl hG N0 (fun m hm => hR.rw3 hm) (fun m hm hm2 => by omega)
                refine fun d => Nat.strongRecOn d (fun d ih => ?_)
                intro k h1 hd hk9 S1 e11 e3 rA rB
                replace g1 := S1.gg g
                refine r_iload hm rfl (k := ?_)
                refine r_iload_n hm rfl (k := ?_)
                refine r_icmp_le (t := 162) hm rfl rfl (fun c135 => ?_) (fun c135 => ?_)
                · have ek : k = q := by omega
                  subst ek
                  refine r_aload_n hm rfl (k := ?_)
                  refine r_getR (hm := hm) (hf := rfl) (hd := rfl) (hs := (by first | assumption | exact (g1.1 _).trans rfl)) (hv := (by first | exact putI_eq | exact (putI_ne (by omega)).trans (by first | exact putI_eq | exact (putI_ne (by omega)).trans (by first | exact putI_eq | exact (putI_ne (by omega)).trans (by first | exact putI_eq | exact (putI_ne (by omega)).trans (by first | exact putI_eq | exact (putI_ne (by omega)).trans (by first | exact putI_eq | exact (putI_ne (by omega)).trans (by first | exact putI_eq | exact (putI_ne (by omega)).trans (by first | first | assumption | exact g1.2 _ _ _ rfl | exact e11 | exact e3) | first | assumption | exact g1.2 _ _ _ rfl | exact e11 | exact e3) | first | assumption | exact g1.2 _ _ _ rfl | exact e11 | exact e3) | first | assumption | exact g1.2 _ _ _ rfl | exact e11 | exact e3) | first | assumption | exact g1.2 _ _ _ rfl | exact e11 | exact e3) | first | assumption | exact g1.2 _ _ _ rfl | exact e11 | exact e3) | first | assumption | exact g1.2 _ _ _ rfl | exact e11 | exact e3) | first | assumption | exact g1.2 _ _ _ rfl | exact e11 | exact e3)) (k := ?_)
                  refine r_sipush hm rfl (k := ?_)
                  refine r_iload_n hm rfl (k := ?_)
                  refine r_iadd hm rfl (hr := (by omega)) (k := ?_)
                  refine r_aload_n hm rfl (k := ?_)
                  refine r_getI (hm := hm) (hf := rfl) (hd := rfl) (hs := (by first | assumption | exact (g1.1 _).trans rfl)) (hv := (by first | exact putI_eq | exact (putI_ne (by omega)).trans (by first | exact putI_eq | exact (putI_ne (by omega)).trans (by first | exact putI_eq | exact (putI_ne (by omega)).trans (by first | exact putI_eq | exact (putI_ne (by omega)).trans (by first | exact putI_eq | exact (putI_ne (by omega)).trans (by first | exact putI_eq | exact (putI_ne (by omega)).trans (by first | exact putI_eq | exact (putI_ne (by omega)).trans (by first | first | assumption | exact g1.2 _ _ _ rfl | exact e11 | exact e3) | first | assumption | exact g1.2 _ _ _ rfl | exact e11 | exact e3) | first | assumption | exact g1.2 _ _ _ rfl | exact e11 | exact e3) | first | assumption | exact g1.2 _ _ _ rfl | exact e11 | exact e3) | first | assumption | exact g1.2 _ _ _ rfl | exact e11 | exact e3) | first | assumption | exact g1.2 _ _ _ rfl | exact e11 | exact e3) | first | assumption | exact g1.2 _ _ _ rfl | exact e11 | exact e3) | first | assumption | exact g1.2 _ _ _ rfl | exact e11 | exact e3)) (k := ?_)
                  refine r_iast (hm := hm) (hf := rfl) (h28 := (by omega)) (hs := (by first | assumption | exact (g1.1 _).trans rfl)) (kk := 180 + k) (hi := by omega) (hn := (by omega)) (k := ?_)
                  refine r_aload_n hm rfl (k := ?_)
                  refine r_getR (hm := hm) (hf := rfl) (hd := rfl) (hs := (by first | assumption | exact (g1.1 _).trans rfl)) (hv := (by first | exact putI_eq | exact (putI_ne (by omega)).trans (by first | exact putI_eq | exact (putI_ne (by omega)).trans (by first | exact putI_eq | exact (putI_ne (by omega)).trans (by first | exact putI_eq | exact (putI_ne (by omega)).trans (by first | exact putI_eq | exact (putI_ne (by omega)).trans (by first | exact putI_eq | exact (putI_ne (by omega)).trans (by first | exact putI_eq | exact (putI_ne (by omega)).trans (by first | first | assumption | exact g1.2 _ _ _ rfl | exact e11 | exact e3) | first | assumption | exact g1.2 _ _ _ rfl | exact e11 | exact e3) | first | assumption | exact g1.2 _ _ _ rfl | exact e11 | exact e3) | first | assumption | exact g1.2 _ _ _ rfl | exact e11 | exact e3) | first | assumption | exact g1.2 _ _ _ rfl | exact e11 | exact e3) | first | assumption | exact g1.2 _ _ _ rfl | exact e11 | exact e3) | first | assumption | exact g1.2 _ _ _ rfl | exact e11 | exact e3) | first | assumption | exact g1.2 _ _ _ rfl | exact e11 | exact e3)) (k := ?_)
                  refine r_sipush hm rfl (k := ?_)
                  refine r_iload_n hm rfl (k := ?_)
                  refine r_iadd hm rfl (hr := (by omega)) (k := ?_)
                  refine r_iload_n hm rfl (k := ?_)
                  refine r_iast (hm := hm) (hf := rfl) (h28 := (by omega)) (hs := (by first | assumption | exact (g1.1 _).trans rfl)) (kk := 180 + k) (hi := by omega) (hn := (by omega)) (k := ?_)
                  refine r_aload_n hm rfl (k := ?_)
                  refine r_getR (hm := hm) (hf := rfl) (hd := rfl) (hs := (by first | assumption | exact (g1.1 _).trans rfl)) (hv := (by first | exact putI_eq | exact (putI_ne (by omega)).trans (by first | exact putI_eq | exact (putI_ne (by omega)).trans (by first | exact putI_eq | exact (putI_ne (by omega)).trans (by first | exact putI_eq | exact (putI_ne (by omega)).trans (by first | exact putI_eq | exact (putI_ne (by omega)).trans (by first | exact putI_eq | exact (putI_ne (by omega)).trans (by first | exact putI_eq | exact (putI_ne (by omega)).trans (by first | first | assumption | exact g1.2 _ _ _ rfl | exact e11 | exact e3) | first | assumption | exact g1.2 _ _ _ rfl | exact e11 | exact e3) | first | assumption | exact g1.2 _ _ _ rfl | exact e11 | exact e3) | first | assumption | exact g1.2 _ _ _ rfl | exact e11 | exact e3) | first | assumption | exact g1.2 _ _ _ rfl | exact e11 | exact e3) | first | assumption | exact g1.2 _ _ _ rfl | exact e11 | exact e3) | first | assumption | exact g1.2 _ _ _ rfl | exact e11 | exact e3) | first | assumption | exact g1.2 _ _ _ rfl | exact e11 | exact e3)) (k := ?_)
                  refine r_sipush hm rfl (k := ?_)
                  refine r_iload_n hm rfl (k := ?_)
                  refine r_iadd hm rfl (hr := (by omega)) (k := ?_)
                  refine r_iload hm rfl (k := ?_)
                  refine r_if_ne (t := 206) hm rfl rfl (fun c198 => ?_) (fun c198 => ?_)
                  · exfalso; omega
                  · refine r_iload hm rfl (k := ?_)
                    refine r_if_eq (t := 210) hm rfl rfl (fun c203 => ?_) (fun c203 => ?_)
                    · refine r_iconst hm rfl (k := ?_)
                      refine r_iast (hm := hm) (hf := rfl) (h28 := (by omega)) (hs := (by first | assumption | exact (g1.1 _).trans rfl)) (kk := 180 + k) (hi := by omega) (hn := (by omega)) (k := ?_)
                      refine r_aload_n hm rfl (k := ?_)
                      refine r_getR (hm := hm) (hf := rfl) (hd := rfl) (hs := (by first | assumption | exact (g1.1 _).trans rfl)) (hv := (by first | exact putI_eq | exact (putI_ne (by omega)).trans (by first | exact putI_eq | exact (putI_ne (by omega)).trans (by first | exact putI_eq | exact (putI_ne (by omega)).trans (by first | exact putI_eq | exact (putI_ne (by omega)).trans (by first | exact putI_eq | exact (putI_ne (by omega)).trans (by first | exact putI_eq | exact (putI_ne (by omega)).trans (by first | exact putI_eq | exact (putI_ne (by omega)).trans (by first | first | assumption | exact g1.2 _ _ _ rfl | exact e11 | exact e3) | first | assumption | exact g1.2 _ _ _ rfl | exact e11 | exact e3) | first | assumption | exact g1.2 _ _ _ rfl | exact e11 | exact e3) | first | assumption | exact g1.2 _ _ _ rfl | exact e11 | exact e3) | first | assumption | exact g1.2 _ _ _ rfl | exact e11 | exact e3) | first | assumption | exact g1.2 _ _ _ rfl | exact e11 | exact e3) | first | assumption | exact g1.2 _ _ _ rfl | exact e11 | exact e3) | first | assumption | exact g1.2 _ _ _ rfl | exact e11 | exact e3)) (k := ?_)
                      refine r_sipush hm rfl (k := ?_)
                      refine r_iload_n hm rfl (k := ?_)
                      refine r_iadd hm rfl (hr := (by omega)) (k := ?_)
                      refine r_iconst hm rfl (k := ?_)
                      refine r_iast (hm := hm) (hf := rfl) (h28 := (by omega)) (hs := (by first | assumption | exact (g1.1 _).trans rfl)) (kk := 180 + k) (hi := by omega) (hn := (by omega)) (k := ?_)
                      refine r_aload_n hm rfl (k := ?_)
                      refine r_getR (hm := hm) (hf := rfl) (hd := rfl) (hs := (by first | assumption | exact (g1.1 _).trans rfl)) (hv := (by first | exact putI_eq | exact (putI_ne (by omega)).trans (by first | exact putI_eq | exact (putI_ne (by omega)).trans (by first | exact putI_eq | exact (putI_ne (by omega)).trans (by first | exact putI_eq | exact (putI_ne (by omega)).trans (by first | exact putI_eq | exact (putI_ne (by omega)).trans (by first | exact putI_eq | exact (putI_ne (by omega)).trans (by first | exact putI_eq | exact (putI_ne (by omega)).trans (by first | first | assumption | exact g1.2 _ _ _ rfl | exact e11 | exact e3) | first | assumption | exact g1.2 _ _ _ rfl | exact e11 | exact e3) | first | assumption | exact g1.2 _ _ _ rfl | exact e11 | exact e3) | first | assumption | exact g1.2 _ _ _ rfl | exact e11 | exact e3) | first | assumption | exact g1.2 _ _ _ rfl | exact e11 | exact e3) | first | assumption | exact g1.2 _ _ _ rfl | exact e11 | exact e3) | first | assumption | exact g1.2 _ _ _ rfl | exact e11 | exact e3) | first | assumption | exact g1.2 _ _ _ rfl | exact e11 | exact e3)) (k := ?_)
                      refine r_sipush hm rfl (k := ?_)
                      refine r_iload_n hm rfl (k := ?_)
                      refine r_iadd hm rfl (hr := (by omega)) (k := ?_)
                      refine r_iconst hm rfl (k := ?_)
                      refine r_iast (hm := hm) (hf := rfl) (h28 := (by omega)) (hs := (by first | assumption | exact (g1.1 _).trans rfl)) (kk := 180 + k) (hi := by omega) (hn := (by omega)) (k := ?_)
                      refine r_aload_n hm rfl (k := ?_)
                      refine r_getR (hm := hm) (hf := rfl) (hd := rfl) (hs := (by first | assumption | exact (g1.1 _).trans rfl)) (hv := (by first | exact putI_eq | exact (putI_ne (by omega)).trans (by first | exact putI_eq | exact (putI_ne (by omega)).trans (by first | exact putI_eq | exact (putI_ne (by omega)).trans (by first | exact putI_eq | exact (putI_ne (by omega)).trans (by first | exact putI_eq | exact (putI_ne (by omega)).trans (by first | exact putI_eq | exact (putI_ne (by omega)).trans (by first | exact putI_eq | exact (putI_ne (by omega)).trans (by first | first | assumption | exact g1.2 _ _ _ rfl | exact e11 | exact e3) | first | assumption | exact g1.2 _ _ _ rfl | exact e11 | exact e3) | first | assumption | exact g1.2 _ _ _ rfl | exact e11 | exact e3) | first | assumption | exact g1.2 _ _ _ rfl | exact e11 | exact e3) | first | assumption | exact g1.2 _ _ _ rfl | exact e11 | exact e3) | first | assumption | exact g1.2 _ _ _ rfl | exact e11 | exact e3) | first | assumption | exact g1.2 _ _ _ rfl | exact e11 | exact e3) | first | assumption | exact g1.2 _ _ _ rfl | exact e11 | exact e3)) (k := ?_)
                      refine r_iconst hm rfl (k := ?_)
                      refine r_dup2 hm rfl (k := ?_)
                      refine r_iald (hm := hm) (hf := rfl) (hs := (by first | assumption | exact (g1.1 _).trans rfl)) (kk := 3) (hi := by omega) (hn := (by omega)) (hv := (by first | exact putI_eq | exact (putI_ne (by omega)).trans (by first | exact putI_eq | exact (putI_ne (by omega)).trans (by first | exact putI_eq | exact (putI_ne (by omega)).trans (by first | exact putI_eq | exact (putI_ne (by omega)).trans (by first | exact putI_eq | exact (putI_ne (by omega)).trans (by first | exact putI_eq | exact (putI_ne (by omega)).trans (by first | exact putI_eq | exact (putI_ne (by omega)).trans (by first | first | assumption | exact g1.2 _ _ _ rfl | exact e11 | exact e3) | first | assumption | exact g1.2 _ _ _ rfl | exact e11 | exact e3) | first | assumption | exact g1.2 _ _ _ rfl | exact e11 | exact e3) | first | assumption | exact g1.2 _ _ _ rfl | exact e11 | exact e3) | first | assumption | exact g1.2 _ _ _ rfl | exact e11 | exact e3) | first | assumption | exact g1.2 _ _ _ rfl | exact e11 | exact e3) | first | assumption | exact g1.2 _ _ _ rfl | exact e11 | exact e3) | first | assumption | exact g1.2 _ _ _ rfl | exact e11 | exact e3)) (k := ?_)
                      refine r_iconst hm rfl (k := ?_)
                      refine r_iadd hm rfl (hr := (by omega)) (k := ?_)
                      refine r_iast (hm := hm) (hf := rfl) (h28 := (by omega)) (hs := (by first | assumption | exact (g1.1 _).trans rfl)) (kk := 3) (hi := by omega) (hn := (by omega)) (k := ?_)
                      refine r_aload_n hm rfl (k := ?_)
                      refine r_dup hm rfl (k := ?_)
                      refine r_getI (hm := hm) (hf := rfl) (hd := rfl) (hs := (by first | assumption | exact (g1.1 _).trans rfl)) (hv := (by first | exact putI_eq | exact (putI_ne (by omega)).trans (by first | exact putI_eq | exact (putI_ne (by omega)).trans (by first | exact putI_eq | exact (putI_ne (by omega)).trans (by first | exact putI_eq | exact (putI_ne (by omega)).trans (by first | exact putI_eq | exact (putI_ne (by omega)).trans (by first | exact putI_eq | exact (putI_ne (by omega)).trans (by first | exact putI_eq | exact (putI_ne (by omega)).trans (by first | first | assumption | exact g1.2 _ _ _ rfl | exact e11 | exact e3) | first | assumption | exact g1.2 _ _ _ rfl | exact e11 | exact e3) | first | assumption | exact g1.2 _ _ _ rfl | exact e11 | exact e3) | first | assumption | exact g1.2 _ _ _ rfl | exact e11 | exact e3) | first | assumption | exact g1.2 _ _ _ rfl | exact e11 | exact e3) | first | assumption | exact g1.2 _ _ _ rfl | exact e11 | exact e3) | first | assumption | exact g1.2 _ _ _ rfl | exact e11 | exact e3) | first | assumption | exact g1.2 _ _ _ rfl | exact e11 | exact e3)) (k := ?_)
                      refine r_iconst hm rfl (k := ?_)
                      refine r_iadd hm rfl (hr := (by omega)) (k := ?_)
                      refine r_putI (hm := hm) (hf := rfl) (hd := rfl) (hs := (by first | assumption | exact (g1.1 _).trans rfl)) (hfin := Or.inl rfl) (hz := fun q9 => absurd q9 (by decide)) (k := ?_)
                      refine r_aload_n hm rfl (k := ?_)
                      refine r_getI (hm := hm) (hf := rfl) (hd := rfl) (hs := (by first | assumption | exact (g1.1 _).trans rfl)) (hv := (by first | exact putI_eq | exact (putI_ne (by omega)).trans (by first | exact putI_eq | exact (putI_ne (by omega)).trans (by first | exact putI_eq | exact (putI_ne (by omega)).trans (by first | exact putI_eq | exact (putI_ne (by omega)).trans (by first | exact putI_eq | exact (putI_ne (by omega)).trans (by first | exact putI_eq | exact (putI_ne (by omega)).trans (by first | exact putI_eq | exact (putI_ne (by omega)).trans (by first | first | assumption | exact g1.2 _ _ _ rfl | exact e11 | exact e3) | first | assumption | exact g1.2 _ _ _ rfl | exact e11 | exact e3) | first | assumption | exact g1.2 _ _ _ rfl | exact e11 | exact e3) | first | assumption | exact g1.2 _ _ _ rfl | exact e11 | exact e3) | first | assumption | exact g1.2 _ _ _ rfl | exact e11 | exact e3) | first | assumption | exact g1.2 _ _ _ rfl | exact e11 | exact e3) | first | assumption | exact g1.2 _ _ _ rfl | exact e11 | exact e3) | first | assumption | exact g1.2 _ _ _ rfl | exact e11 | exact e3)) (k := ?_)
                      refine r_iconst hm rfl (k := ?_)
                      refine r_isub hm rfl (hr := (by omega)) (k := ?_)
                      refine r_ireturn hm rfl rfl (by rfl) (Nat.le_of_ble_eq_true rfl) (Nat.le_of_ble_eq_true rfl) ?_
                      have c8 : ¬ fuPut S := by unfold fuPut; omega
                      have ems : msOf kd a = 0 := if_neg (by omega)
                      have SX : Sm (fun a k => (1088 ≤ a ∧ a ≤ 1092 ∧ 180 ≤ k) ∨ (1093 ≤ a ∧ a ≤ 1095 ∧ 3600 ≤ k) ∨ (a = 1086 ∧ k = 3) ∨ (a = 1085 ∧ k = 11)) h (putI (putI (putI (putI (putI (putI (putI h1 1088 (180 + k) (S.2.2.2.1 : Int)) 1089 (180 + k) kd) 1090 (180 + k) 0) 1091 (180 + k) (-1)) 1092 (180 + k) 0) 1086 3 ((S.1.1 : Int) + 1)) 1085 11 ((S.2.2.2.1 : Int) + 1)) := Sm.put (Sm.put (Sm.put (Sm.put (Sm.put (Sm.put (Sm.put S1 (by omega)) (by omega)) (by omega)) (by omega)) (by omega)) (by omega)) (by omega)
                      have SY : Sm (fun a9 k9 => (1088 ≤ a9 ∧ a9 ≤ 1092 ∧ k9 = 180 + k) ∨ a9 = 1086 ∨ a9 = 1085) h1 (putI (putI (putI (putI (putI (putI (putI h1 1088 (180 + k) (S.2.2.2.1 : Int)) 1089 (180 + k) kd) 1090 (180 + k) 0) 1091 (180 + k) (-1)) 1092 (180 + k) 0) 1086 3 ((S.1.1 : Int) + 1)) 1085 11 ((S.2.2.2.1 : Int) + 1)) := Sm.put (Sm.put (Sm.put (Sm.put (Sm.put (Sm.put (Sm.put Sm.refl (by omega)) (by omega)) (by omega)) (by omega)) (by omega)) (by omega)) (by omega)
                      unfold oPut aPut
                      rw [if_pos ⟨c9, c8⟩, if_pos c9, if_neg c8]
                      refine ⟨?_, SX.mono (fun a9 k9 z => by omega), by congr 2; omega⟩
                      unfold nwPut
                      rw [ems, Int.toNat_natCast]
                      have oky := (oPut_ok (i := (k : Int)) (kd := kd) (a := a) ok).1
                      unfold oPut at oky
                      rw [if_pos ⟨c9, c8⟩] at oky
                      unfold nwPut at oky
                      rw [ems, Int.toNat_natCast] at oky
                      refine I.mut (gv := S.2.2.2.1 + 1) ok SX (fun a k z => by omega) (rw3_rep (x := S.1) (fun i9 hi9 => by have := oky.2.1 i9 hi9; unfold okIt at this; exact this.2.2.2.2.2.2.2.2.2.1) (by show S.1.1 + 1 ≤ 60; omega) ?_ (fun m hm => ?_) (fun k9 hk9 => ?_)) putI_eq
                      · rw [putI_ne (by omega), putI_eq]; rfl
                      · have hm2 : m < S.1.1 + 1 := hm
                        by_cases em : m = k
                        · have eS : shI S.1.1 k m = S.1.1 := by unfold shI; rw [if_pos em]
                          refine ⟨fun f hf => ?_, fun g9 k9 hg9 hk9 h4 => ?_⟩
                          · show _ = if shI S.1.1 k m = S.1.1 then (if f = 0 then (S.2.2.2.1 : Int) else if f = 1 then kd else if f = 2 then 0 else if f = 3 then -1 else 0) else _
                            rw [if_pos eS, em]
                            have : f = 0 ∨ f = 1 ∨ f = 2 ∨ f = 3 ∨ f = 4 := by omega
                            rcases this with rfl | rfl | rfl | rfl | rfl <;> simp (disch := omega) only [putI_fne, putI_feq, upf_ne, upf_eq] <;> first | rfl | (simp; done)
                          · have h5 : (k9 : Int) < if shI S.1.1 k m = S.1.1 then (if (4 : Nat) = 0 then (S.2.2.2.1 : Int) else if (4 : Nat) = 1 then kd else if (4 : Nat) = 2 then 0 else if (4 : Nat) = 3 then -1 else 0) else _ := h4
                            rw [if_pos eS] at h5
                            simp at h5
                            omega
                        · by_cases lm : m < k
                          · exact ((rA m lm).same SY (fun a9 k9 z z2 => by unfold rgR at z2; omega)).ex (by omega) (by unfold shI; (repeat' split) <;> omega)
                          · exact ((rB m (by omega) (by omega)).same SY (fun a9 k9 z z2 => by unfold rgR at z2; omega)).ex (by omega) (by unfold shI; (repeat' split) <;> omega)
                      · exact (SX.2.2 _ _ (by omega)).trans (S0 k9 hk9)
                    · exfalso; omega
                · have qC := m_copy g1 (fr := 180 + k - 1) (to := 180 + k) (by omega) (by omega) (by omega)
                  rw [show (((180 + k - 1 : Nat)) : Int) = 180 + (k : Int) - 1 by omega, show (((180 + k : Nat)) : Int) = 180 + (k : Int) by omega] at qC
                  refine r_aload_n hm rfl (k := ?_)
                  refine r_sipush hm rfl (k := ?_)
                  refine r_iload hm rfl (k := ?_)
                  refine r_iadd hm rfl (hr := (by omega)) (k := ?_)
                  refine r_iconst hm rfl (k := ?_)
                  refine r_isub hm rfl (hr := (by omega)) (k := ?_)
                  refine r_sipush hm rfl (k := ?_)
                  refine r_iload hm rfl (k := ?_)
                  refine r_iadd hm rfl (hr := (by omega)) (k := ?_)
                  refine r_callv (j2 := 163) hm rfl rfl rfl rfl rfl rfl (by first | assumption | exact (g1.1 _).trans rfl) (Nat.le_of_ble_eq_true rfl) (Nat.le_of_ble_eq_true rfl) rfl ⟨Nat.le_of_ble_eq_true rfl, Nat.le_of_ble_eq_true rfl, Nat.le_of_ble_eq_true rfl, Nat.le_of_ble_eq_true rfl, Nat.le_of_ble_eq_true rfl⟩ rfl (qC) (fun v9 hB p9 => ?_)
                  obtain ⟨SB, cF, cP, e1⟩ := p9
                  subst e1
                  change RN 161 156 _ _ _ 0 0 _
                  dsimp only [Option.toList, List.nil_append]
                  refine r_iinc hm rfl (hr := (by omega)) (k := ?_)
                  refine r_goto (t := 132) hm rfl (k := ?_)
                  have b9 := ih (d - 1) (by omega) (k - 1) hB (by omega) (by omega) (S1.trans (SB.mono (fun a k z => by unfold rgR at z; omega))) ((SB.2.2 _ _ (by unfold rgR; omega)).trans e11) ((SB.2.2 _ _ (by unfold rgR; omega)).trans e3) (fun m hm => (rA m (by omega)).same SB (fun a k9 z z2 => by unfold rgR at z z2; omega)) (fun m hm hm2 => by
                    by_cases em : m = k
                    · subst em
                      exact (show Rw h1 (180 + m - 1) S.1 (m - 1) by rw [show 180 + m - 1 = 180 + (m - 1) by omega]; exact rA (m - 1) (by omega)).cp cF cP
                    · exact (rB m (by omega) hm2).same SB (fun a k9 z z2 => by unfold rgR at z z2; omega))
                  rw [show (((k - 1 : Nat)) : Int) = (k : Int) + -1 by omega] at b9
                  exact b9
              · refine r_sipush hm rfl (k := ?_)
                refine r_ireturn hm rfl rfl (by rfl) (Nat.le_of_ble_eq_true rfl) (Nat.le_of_ble_eq_true rfl) ?_
                have c8 : fuPut S := by unfold fuPut; omega
                unfold oPut aPut
                rw [if_neg (fun z => z.2 c8), if_pos c9, if_pos c8]
                exact ⟨I, Sm.refl, rfl⟩
          · refine r_iload_n hm rfl (k := ?_)
            refine r_i2l hm rfl (k := ?_)
            refine r_lconst hm rfl (k := ?_)
            refine r_ldc2 hm rfl (hd := rfl) (k := ?_)
            refine r_calls (j2 := 162) hm rfl rfl rfl rfl rfl rfl (Nat.le_of_ble_eq_true rfl) (Nat.le_of_ble_eq_true rfl) rfl ⟨Nat.le_of_ble_eq_true rfl, Nat.le_of_ble_eq_true rfl, Nat.le_of_ble_eq_true rfl, Nat.le_of_ble_eq_true rfl, Nat.le_of_ble_eq_true rfl⟩ rfl (m_in (z := a) (a := 1) (b := 8) (zL_t ha0) rfl rfl) (fun v9 h9 p9 => ?_)
            obtain ⟨e1, e2⟩ := p9
            subst e2
            replace e1 := e1.symm
            subst e1
            obtain ⟨b6, eb6, hb6⟩ := ite01 (p := (1 : Int) ≤ a ∧ a ≤ (8 : Int))
            rw [eb6]
            change RN 161 92 _ _ _ 0 0 _
            dsimp only [Option.toList, List.cons_append, List.nil_append]
            refine r_if_ne (t := 99) hm rfl rfl (fun c92 => ?_) (fun c92 => ?_)
            · have c9 : gdPut S i kd a := by unfold gdPut; omega
              have hi9 : 0 ≤ i ∧ i ≤ (S.1.1 : Int) := by omega
              try clear hb6
              try clear hb7
              clear hb8 hb9
              refine r_aload_n hm rfl (k := ?_)
              refine r_getR (hm := hm) (hf := rfl) (hd := rfl) (hs := (by first | assumption | exact (g1.1 _).trans rfl)) (hv := (by first | exact putI_eq | exact (putI_ne (by omega)).trans (by first | exact putI_eq | exact (putI_ne (by omega)).trans (by first | exact putI_eq | exact (putI_ne (by omega)).trans (by first | exact putI_eq | exact (putI_ne (by omega)).trans (by first | exact putI_eq | exact (putI_ne (by omega)).trans (by first | exact putI_eq | exact (putI_ne (by omega)).trans (by first | exact putI_eq | exact (putI_ne (by omega)).trans (by first | first | assumption | exact g1.2 _ _ _ rfl | exact e11 | exact e3) | first | assumption | exact g1.2 _ _ _ rfl | exact e11 | exact e3) | first | assumption | exact g1.2 _ _ _ rfl | exact e11 | exact e3) | first | assumption | exact g1.2 _ _ _ rfl | exact e11 | exact e3) | first | assumption | exact g1.2 _ _ _ rfl | exact e11 | exact e3) | first | assumption | exact g1.2 _ _ _ rfl | exact e11 | exact e3) | first | assumption | exact g1.2 _ _ _ rfl | exact e11 | exact e3) | first | assumption | exact g1.2 _ _ _ rfl | exact e11 | exact e3)) (k := ?_)
              refine r_iconst hm rfl (k := ?_)
              refine r_iald (hm := hm) (hf := rfl) (hs := (by first | assumption | exact (g1.1 _).trans rfl)) (kk := 3) (hi := by omega) (hn := (by omega)) (hv := (by first | exact putI_eq | exact (putI_ne (by omega)).trans (by first | exact putI_eq | exact (putI_ne (by omega)).trans (by first | exact putI_eq | exact (putI_ne (by omega)).trans (by first | exact putI_eq | exact (putI_ne (by omega)).trans (by first | exact putI_eq | exact (putI_ne (by omega)).trans (by first | exact putI_eq | exact (putI_ne (by omega)).trans (by first | exact putI_eq | exact (putI_ne (by omega)).trans (by first | first | assumption | exact g1.2 _ _ _ rfl | exact e11 | exact e3) | first | assumption | exact g1.2 _ _ _ rfl | exact e11 | exact e3) | first | assumption | exact g1.2 _ _ _ rfl | exact e11 | exact e3) | first | assumption | exact g1.2 _ _ _ rfl | exact e11 | exact e3) | first | assumption | exact g1.2 _ _ _ rfl | exact e11 | exact e3) | first | assumption | exact g1.2 _ _ _ rfl | exact e11 | exact e3) | first | assumption | exact g1.2 _ _ _ rfl | exact e11 | exact e3) | first | assumption | exact g1.2 _ _ _ rfl | exact e11 | exact e3)) (k := ?_)
              refine r_bipush hm rfl (k := ?_)
              refine r_icmp_eq (t := 120) hm rfl rfl (fun c107 => ?_) (fun c107 => ?_)
              · refine r_sipush hm rfl (k := ?_)
                refine r_ireturn hm rfl rfl (by rfl) (Nat.le_of_ble_eq_true rfl) (Nat.le_of_ble_eq_true rfl) ?_
                have c8 : fuPut S := by unfold fuPut; omega
                unfold oPut aPut
                rw [if_neg (fun z => z.2 c8), if_pos c9, if_pos c8]
                exact ⟨I, Sm.refl, rfl⟩
              · refine r_aload_n hm rfl (k := ?_)
                refine r_getI (hm := hm) (hf := rfl) (hd := rfl) (hs := (by first | assumption | exact (g1.1 _).trans rfl)) (hv := (by first | exact putI_eq | exact (putI_ne (by omega)).trans (by first | exact putI_eq | exact (putI_ne (by omega)).trans (by first | exact putI_eq | exact (putI_ne (by omega)).trans (by first | exact putI_eq | exact (putI_ne (by omega)).trans (by first | exact putI_eq | exact (putI_ne (by omega)).trans (by first | exact putI_eq | exact (putI_ne (by omega)).trans (by first | exact putI_eq | exact (putI_ne (by omega)).trans (by first | first | assumption | exact g1.2 _ _ _ rfl | exact e11 | exact e3) | first | assumption | exact g1.2 _ _ _ rfl | exact e11 | exact e3) | first | assumption | exact g1.2 _ _ _ rfl | exact e11 | exact e3) | first | assumption | exact g1.2 _ _ _ rfl | exact e11 | exact e3) | first | assumption | exact g1.2 _ _ _ rfl | exact e11 | exact e3) | first | assumption | exact g1.2 _ _ _ rfl | exact e11 | exact e3) | first | assumption | exact g1.2 _ _ _ rfl | exact e11 | exact e3) | first | assumption | exact g1.2 _ _ _ rfl | exact e11 | exact e3)) (k := ?_)
                refine r_sipush hm rfl (k := ?_)
                refine r_icmp_ne (t := 124) hm rfl rfl (fun c117 => ?_) (fun c117 => ?_)
                · obtain ⟨q, rfl⟩ := Int.eq_ofNat_of_zero_le (show 0 ≤ i by omega)
                  refine r_aload_n hm rfl (k := ?_)
                  refine r_getR (hm := hm) (hf := rfl) (hd := rfl) (hs := (by first | assumption | exact (g1.1 _).trans rfl)) (hv := (by first | exact putI_eq | exact (putI_ne (by omega)).trans (by first | exact putI_eq | exact (putI_ne (by omega)).trans (by first | exact putI_eq | exact (putI_ne (by omega)).trans (by first | exact putI_eq | exact (putI_ne (by omega)).trans (by first | exact putI_eq | exact (putI_ne (by omega)).trans (by first | exact putI_eq | exact (putI_ne (by omega)).trans (by first | exact putI_eq | exact (putI_ne (by omega)).trans (by first | first | assumption | exact g1.2 _ _ _ rfl | exact e11 | exact e3) | first | assumption | exact g1.2 _ _ _ rfl | exact e11 | exact e3) | first | assumption | exact g1.2 _ _ _ rfl | exact e11 | exact e3) | first | assumption | exact g1.2 _ _ _ rfl | exact e11 | exact e3) | first | assumption | exact g1.2 _ _ _ rfl | exact e11 | exact e3) | first | assumption | exact g1.2 _ _ _ rfl | exact e11 | exact e3) | first | assumption | exact g1.2 _ _ _ rfl | exact e11 | exact e3) | first | assumption | exact g1.2 _ _ _ rfl | exact e11 | exact e3)) (k := ?_)
                  refine r_iconst hm rfl (k := ?_)
                  refine r_iald (hm := hm) (hf := rfl) (hs := (by first | assumption | exact (g1.1 _).trans rfl)) (kk := 3) (hi := by omega) (hn := (by omega)) (hv := (by first | exact putI_eq | exact (putI_ne (by omega)).trans (by first | exact putI_eq | exact (putI_ne (by omega)).trans (by first | exact putI_eq | exact (putI_ne (by omega)).trans (by first | exact putI_eq | exact (putI_ne (by omega)).trans (by first | exact putI_eq | exact (putI_ne (by omega)).trans (by first | exact putI_eq | exact (putI_ne (by omega)).trans (by first | exact putI_eq | exact (putI_ne (by omega)).trans (by first | first | assumption | exact g1.2 _ _ _ rfl | exact e11 | exact e3) | first | assumption | exact g1.2 _ _ _ rfl | exact e11 | exact e3) | first | assumption | exact g1.2 _ _ _ rfl | exact e11 | exact e3) | first | assumption | exact g1.2 _ _ _ rfl | exact e11 | exact e3) | first | assumption | exact g1.2 _ _ _ rfl | exact e11 | exact e3) | first | assumption | exact g1.2 _ _ _ rfl | exact e11 | exact e3) | first | assumption | exact g1.2 _ _ _ rfl | exact e11 | exact e3) | first | assumption | exact g1.2 _ _ _ rfl | exact e11 | exact e3)) (k := ?_)
                  refine r_istore hm rfl (k := ?_)
                  suffices LP : ∀ (d k : Nat) (h1 : Hp), k = q + d → k ≤ S.1.1 → Sm (fun a k => (1088 ≤ a ∧ a ≤ 1092 ∧ 180 ≤ k) ∨ (1093 ≤ a ∧ a ≤ 1095 ∧ 3600 ≤ k) ∨ (a = 1086 ∧ k = 3) ∨ (a = 1085 ∧ k = 11)) h h1 → h1.2.1 1085 11 = (S.2.2.2.1 : Int) → h1.2.1 1086 3 = (S.1.1 : Int) → (∀ m, m < k → Rw h1 (180 + m) S.1 m) → (∀ m, k < m → m ≤ S.1.1 → Rw h1 (180 + m) S.1 (m - 1)) → RN 161 132 [some (.inr (.inr (some 1085))), some (.inl (q : Int)), some (.inl kd), some (.inl a), some (.inl b4), some (.inl b5), some (.inl (k : Int))] [] h1 0 0 (fun v h2 => InvM L h2 (oPut S (q : Int) kd a) ∧ FxM h h2 ∧ v = some (.inl (aPut S (q : Int) kd a))) from LP (S.1.1 - q) S.1.1 h (by omega) (Nat.le_refl _) Sm.refl hG N0 (fun m hm => hR.rw3 hm) (fun m hm hm2 => by omega)
                  refine fun d => Nat.strongRecOn d (fun d ih => ?_)
                  intro k h1 hd hk9 S1 e11 e3 rA rB
                  replace g1 := S1.gg g
                  refine r_iload hm rfl (k := ?_)
                  refine r_iload_n hm rfl (k := ?_)
                  refine r_icmp_le (t := 162) hm rfl rfl (fun c135 => ?_) (fun c135 => ?_)
                  · have ek : k = q := by omega
                    subst ek
                    refine r_aload_n hm rfl (k := ?_)
                    refine r_getR (hm := hm) (hf := rfl) (hd := rfl) (hs := (by first | assumption | exact (g1.1 _).trans rfl)) (hv := (by first | exact putI_eq | exact (putI_ne (by omega)).trans (by first | exact putI_eq | exact (putI_ne (by omega)).trans (by first | exact putI_eq | exact (putI_ne (by omega)).trans (by first | exact putI_eq | exact (putI_ne (by omega)).trans (by first | exact putI_eq | exact (putI_ne (by omega)).trans (by first | exact putI_eq | exact (putI_ne (by omega)).trans (by first | exact putI_eq | exact (putI_ne (by omega)).trans (by first | first | assumption | exact g1.2 _ _ _ rfl | exact e11 | exact e3) | first | assumption | exact g1.2 _ _ _ rfl | exact e11 | exact e3) | first | assumption | exact g1.2 _ _ _ rfl | exact e11 | exact e3) | first | assumption | exact g1.2 _ _ _ rfl | exact e11 | exact e3) | first | assumption | exact g1.2 _ _ _ rfl | exact e11 | exact e3) | first | assumption | exact g1.2 _ _ _ rfl | exact e11 | exact e3) | first | assumption | exact g1.2 _ _ _ rfl | exact e11 | exact e3) | first | assumption | exact g1.2 _ _ _ rfl | exact e11 | exact e3)) (k := ?_)
                    refine r_sipush hm rfl (k := ?_)
                    refine r_iload_n hm rfl (k := ?_)
                    refine r_iadd hm rfl (hr := (by omega)) (k := ?_)
                    refine r_aload_n hm rfl (k := ?_)
                    refine r_getI (hm := hm) (hf := rfl) (hd := rfl) (hs := (by first | assumption | exact (g1.1 _).trans rfl)) (hv := (by first | exact putI_eq | exact (putI_ne (by omega)).trans (by first | exact putI_eq | exact (putI_ne (by omega)).trans (by first | exact putI_eq | exact (putI_ne (by omega)).trans (by first | exact putI_eq | exact (putI_ne (by omega)).trans (by first | exact putI_eq | exact (putI_ne (by omega)).trans (by first | exact putI_eq | exact (putI_ne (by omega)).trans (by first | exact putI_eq | exact (putI_ne (by omega)).trans (by first | first | assumption | exact g1.2 _ _ _ rfl | exact e11 | exact e3) | first | assumption | exact g1.2 _ _ _ rfl | exact e11 | exact e3) | first | assumption | exact g1.2 _ _ _ rfl | exact e11 | exact e3) | first | assumption | exact g1.2 _ _ _ rfl | exact e11 | exact e3) | first | assumption | exact g1.2 _ _ _ rfl | exact e11 | exact e3) | first | assumption | exact g1.2 _ _ _ rfl | exact e11 | exact e3) | first | assumption | exact g1.2 _ _ _ rfl | exact e11 | exact e3) | first | assumption | exact g1.2 _ _ _ rfl | exact e11 | exact e3)) (k := ?_)
                    refine r_iast (hm := hm) (hf := rfl) (h28 := (by omega)) (hs := (by first | assumption | exact (g1.1 _).trans rfl)) (kk := 180 + k) (hi := by omega) (hn := (by omega)) (k := ?_)
                    refine r_aload_n hm rfl (k := ?_)
                    refine r_getR (hm := hm) (hf := rfl) (hd := rfl) (hs := (by first | assumption | exact (g1.1 _).trans rfl)) (hv := (by first | exact putI_eq | exact (putI_ne (by omega)).trans (by first | exact putI_eq | exact (putI_ne (by omega)).trans (by first | exact putI_eq | exact (putI_ne (by omega)).trans (by first | exact putI_eq | exact (putI_ne (by omega)).trans (by first | exact putI_eq | exact (putI_ne (by omega)).trans (by first | exact putI_eq | exact (putI_ne (by omega)).trans (by first | exact putI_eq | exact (putI_ne (by omega)).trans (by first | first | assumption | exact g1.2 _ _ _ rfl | exact e11 | exact e3) | first | assumption | exact g1.2 _ _ _ rfl | exact e11 | exact e3) | first | assumption | exact g1.2 _ _ _ rfl | exact e11 | exact e3) | first | assumption | exact g1.2 _ _ _ rfl | exact e11 | exact e3) | first | assumption | exact g1.2 _ _ _ rfl | exact e11 | exact e3) | first | assumption | exact g1.2 _ _ _ rfl | exact e11 | exact e3) | first | assumption | exact g1.2 _ _ _ rfl | exact e11 | exact e3) | first | assumption | exact g1.2 _ _ _ rfl | exact e11 | exact e3)) (k := ?_)
                    refine r_sipush hm rfl (k := ?_)
                    refine r_iload_n hm rfl (k := ?_)
                    refine r_iadd hm rfl (hr := (by omega)) (k := ?_)
                    refine r_iload_n hm rfl (k := ?_)
                    refine r_iast (hm := hm) (hf := rfl) (h28 := (by omega)) (hs := (by first | assumption | exact (g1.1 _).trans rfl)) (kk := 180 + k) (hi := by omega) (hn := (by omega)) (k := ?_)
                    refine r_aload_n hm rfl (k := ?_)
                    refine r_getR (hm := hm) (hf := rfl) (hd := rfl) (hs := (by first | assumption | exact (g1.1 _).trans rfl)) (hv := (by first | exact putI_eq | exact (putI_ne (by omega)).trans (by first | exact putI_eq | exact (putI_ne (by omega)).trans (by first | exact putI_eq | exact (putI_ne (by omega)).trans (by first | exact putI_eq | exact (putI_ne (by omega)).trans (by first | exact putI_eq | exact (putI_ne (by omega)).trans (by first | exact putI_eq | exact (putI_ne (by omega)).trans (by first | exact putI_eq | exact (putI_ne (by omega)).trans (by first | first | assumption | exact g1.2 _ _ _ rfl | exact e11 | exact e3) | first | assumption | exact g1.2 _ _ _ rfl | exact e11 | exact e3) | first | assumption | exact g1.2 _ _ _ rfl | exact e11 | exact e3) | first | assumption | exact g1.2 _ _ _ rfl | exact e11 | exact e3) | first | assumption | exact g1.2 _ _ _ rfl | exact e11 | exact e3) | first | assumption | exact g1.2 _ _ _ rfl | exact e11 | exact e3) | first | assumption | exact g1.2 _ _ _ rfl | exact e11 | exact e3) | first | assumption | exact g1.2 _ _ _ rfl | exact e11 | exact e3)) (k := ?_)
                    refine r_sipush hm rfl (k := ?_)
                    refine r_iload_n hm rfl (k := ?_)
                    refine r_iadd hm rfl (hr := (by omega)) (k := ?_)
                    refine r_iload hm rfl (k := ?_)
                    refine r_if_ne (t := 206) hm rfl rfl (fun c198 => ?_) (fun c198 => ?_)
                    · exfalso; omega
                    · refine r_iload hm rfl (k := ?_)
                      refine r_if_eq (t := 210) hm rfl rfl (fun c203 => ?_) (fun c203 => ?_)
                      · exfalso; omega
                      · refine r_iload_n hm rfl (k := ?_)
                        refine r_goto (t := 211) hm rfl (k := ?_)
                        refine r_iast (hm := hm) (hf := rfl) (h28 := (by omega)) (hs := (by first | assumption | exact (g1.1 _).trans rfl)) (kk := 180 + k) (hi := by omega) (hn := (by omega)) (k := ?_)
                        refine r_aload_n hm rfl (k := ?_)
                        refine r_getR (hm := hm) (hf := rfl) (hd := rfl) (hs := (by first | assumption | exact (g1.1 _).trans rfl)) (hv := (by first | exact putI_eq | exact (putI_ne (by omega)).trans (by first | exact putI_eq | exact (putI_ne (by omega)).trans (by first | exact putI_eq | exact (putI_ne (by omega)).trans (by first | exact putI_eq | exact (putI_ne (by omega)).trans (by first | exact putI_eq | exact (putI_ne (by omega)).trans (by first | exact putI_eq | exact (putI_ne (by omega)).trans (by first | exact putI_eq | exact (putI_ne (by omega)).trans (by first | first | assumption | exact g1.2 _ _ _ rfl | exact e11 | exact e3) | first | assumption | exact g1.2 _ _ _ rfl | exact e11 | exact e3) | first | assumption | exact g1.2 _ _ _ rfl | exact e11 | exact e3) | first | assumption | exact g1.2 _ _ _ rfl | exact e11 | exact e3) | first | assumption | exact g1.2 _ _ _ rfl | exact e11 | exact e3) | first | assumption | exact g1.2 _ _ _ rfl | exact e11 | exact e3) | first | assumption | exact g1.2 _ _ _ rfl | exact e11 | exact e3) | first | assumption | exact g1.2 _ _ _ rfl | exact e11 | exact e3)) (k := ?_)
                        refine r_sipush hm rfl (k := ?_)
                        refine r_iload_n hm rfl (k := ?_)
                        refine r_iadd hm rfl (hr := (by omega)) (k := ?_)
                        refine r_iconst hm rfl (k := ?_)
                        refine r_iast (hm := hm) (hf := rfl) (h28 := (by omega)) (hs := (by first | assumption | exact (g1.1 _).trans rfl)) (kk := 180 + k) (hi := by omega) (hn := (by omega)) (k := ?_)
                        refine r_aload_n hm rfl (k := ?_)
                        refine r_getR (hm := hm) (hf := rfl) (hd := rfl) (hs := (by first | assumption | exact (g1.1 _).trans rfl)) (hv := (by first | exact putI_eq | exact (putI_ne (by omega)).trans (by first | exact putI_eq | exact (putI_ne (by omega)).trans (by first | exact putI_eq | exact (putI_ne (by omega)).trans (by first | exact putI_eq | exact (putI_ne (by omega)).trans (by first | exact putI_eq | exact (putI_ne (by omega)).trans (by first | exact putI_eq | exact (putI_ne (by omega)).trans (by first | exact putI_eq | exact (putI_ne (by omega)).trans (by first | first | assumption | exact g1.2 _ _ _ rfl | exact e11 | exact e3) | first | assumption | exact g1.2 _ _ _ rfl | exact e11 | exact e3) | first | assumption | exact g1.2 _ _ _ rfl | exact e11 | exact e3) | first | assumption | exact g1.2 _ _ _ rfl | exact e11 | exact e3) | first | assumption | exact g1.2 _ _ _ rfl | exact e11 | exact e3) | first | assumption | exact g1.2 _ _ _ rfl | exact e11 | exact e3) | first | assumption | exact g1.2 _ _ _ rfl | exact e11 | exact e3) | first | assumption | exact g1.2 _ _ _ rfl | exact e11 | exact e3)) (k := ?_)
                        refine r_sipush hm rfl (k := ?_)
                        refine r_iload_n hm rfl (k := ?_)
                        refine r_iadd hm rfl (hr := (by omega)) (k := ?_)
                        refine r_iconst hm rfl (k := ?_)
                        refine r_iast (hm := hm) (hf := rfl) (h28 := (by omega)) (hs := (by first | assumption | exact (g1.1 _).trans rfl)) (kk := 180 + k) (hi := by omega) (hn := (by omega)) (k := ?_)
                        refine r_aload_n hm rfl (k := ?_)
                        refine r_getR (hm := hm) (hf := rfl) (hd := rfl) (hs := (by first | assumption | exact (g1.1 _).trans rfl)) (hv := (by first | exact putI_eq | exact (putI_ne (by omega)).trans (by first | exact putI_eq | exact (putI_ne (by omega)).trans (by first | exact putI_eq | exact (putI_ne (by omega)).trans (by first | exact putI_eq | exact (putI_ne (by omega)).trans (by first | exact putI_eq | exact (putI_ne (by omega)).trans (by first | exact putI_eq | exact (putI_ne (by omega)).trans (by first | exact putI_eq | exact (putI_ne (by omega)).trans (by first | first | assumption | exact g1.2 _ _ _ rfl | exact e11 | exact e3) | first | assumption | exact g1.2 _ _ _ rfl | exact e11 | exact e3) | first | assumption | exact g1.2 _ _ _ rfl | exact e11 | exact e3) | first | assumption | exact g1.2 _ _ _ rfl | exact e11 | exact e3) | first | assumption | exact g1.2 _ _ _ rfl | exact e11 | exact e3) | first | assumption | exact g1.2 _ _ _ rfl | exact e11 | exact e3) | first | assumption | exact g1.2 _ _ _ rfl | exact e11 | exact e3) | first | assumption | exact g1.2 _ _ _ rfl | exact e11 | exact e3)) (k := ?_)
                        refine r_iconst hm rfl (k := ?_)
                        refine r_dup2 hm rfl (k := ?_)
                        refine r_iald (hm := hm) (hf := rfl) (hs := (by first | assumption | exact (g1.1 _).trans rfl)) (kk := 3) (hi := by omega) (hn := (by omega)) (hv := (by first | exact putI_eq | exact (putI_ne (by omega)).trans (by first | exact putI_eq | exact (putI_ne (by omega)).trans (by first | exact putI_eq | exact (putI_ne (by omega)).trans (by first | exact putI_eq | exact (putI_ne (by omega)).trans (by first | exact putI_eq | exact (putI_ne (by omega)).trans (by first | exact putI_eq | exact (putI_ne (by omega)).trans (by first | exact putI_eq | exact (putI_ne (by omega)).trans (by first | first | assumption | exact g1.2 _ _ _ rfl | exact e11 | exact e3) | first | assumption | exact g1.2 _ _ _ rfl | exact e11 | exact e3) | first | assumption | exact g1.2 _ _ _ rfl | exact e11 | exact e3) | first | assumption | exact g1.2 _ _ _ rfl | exact e11 | exact e3) | first | assumption | exact g1.2 _ _ _ rfl | exact e11 | exact e3) | first | assumption | exact g1.2 _ _ _ rfl | exact e11 | exact e3) | first | assumption | exact g1.2 _ _ _ rfl | exact e11 | exact e3) | first | assumption | exact g1.2 _ _ _ rfl | exact e11 | exact e3)) (k := ?_)
                        refine r_iconst hm rfl (k := ?_)
                        refine r_iadd hm rfl (hr := (by omega)) (k := ?_)
                        refine r_iast (hm := hm) (hf := rfl) (h28 := (by omega)) (hs := (by first | assumption | exact (g1.1 _).trans rfl)) (kk := 3) (hi := by omega) (hn := (by omega)) (k := ?_)
                        refine r_aload_n hm rfl (k := ?_)
                        refine r_dup hm rfl (k := ?_)
                        refine r_getI (hm := hm) (hf := rfl) (hd := rfl) (hs := (by first | assumption | exact (g1.1 _).trans rfl)) (hv := (by first | exact putI_eq | exact (putI_ne (by omega)).trans (by first | exact putI_eq | exact (putI_ne (by omega)).trans (by first | exact putI_eq | exact (putI_ne (by omega)).trans (by first | exact putI_eq | exact (putI_ne (by omega)).trans (by first | exact putI_eq | exact (putI_ne (by omega)).trans (by first | exact putI_eq | exact (putI_ne (by omega)).trans (by first | exact putI_eq | exact (putI_ne (by omega)).trans (by first | first | assumption | exact g1.2 _ _ _ rfl | exact e11 | exact e3) | first | assumption | exact g1.2 _ _ _ rfl | exact e11 | exact e3) | first | assumption | exact g1.2 _ _ _ rfl | exact e11 | exact e3) | first | assumption | exact g1.2 _ _ _ rfl | exact e11 | exact e3) | first | assumption | exact g1.2 _ _ _ rfl | exact e11 | exact e3) | first | assumption | exact g1.2 _ _ _ rfl | exact e11 | exact e3) | first | assumption | exact g1.2 _ _ _ rfl | exact e11 | exact e3) | first | assumption | exact g1.2 _ _ _ rfl | exact e11 | exact e3)) (k := ?_)
                        refine r_iconst hm rfl (k := ?_)
                        refine r_iadd hm rfl (hr := (by omega)) (k := ?_)
                        refine r_putI (hm := hm) (hf := rfl) (hd := rfl) (hs := (by first | assumption | exact (g1.1 _).trans rfl)) (hfin := Or.inl rfl) (hz := fun q9 => absurd q9 (by decide)) (k := ?_)
                        refine r_aload_n hm rfl (k := ?_)
                        refine r_getI (hm := hm) (hf := rfl) (hd := rfl) (hs := (by first | assumption | exact (g1.1 _).trans rfl)) (hv := (by first | exact putI_eq | exact (putI_ne (by omega)).trans (by first | exact putI_eq | exact (putI_ne (by omega)).trans (by first | exact putI_eq | exact (putI_ne (by omega)).trans (by first | exact putI_eq | exact (putI_ne (by omega)).trans (by first | exact putI_eq | exact (putI_ne (by omega)).trans (by first | exact putI_eq | exact (putI_ne (by omega)).trans (by first | exact putI_eq | exact (putI_ne (by omega)).trans (by first | first | assumption | exact g1.2 _ _ _ rfl | exact e11 | exact e3) | first | assumption | exact g1.2 _ _ _ rfl | exact e11 | exact e3) | first | assumption | exact g1.2 _ _ _ rfl | exact e11 | exact e3) | first | assumption | exact g1.2 _ _ _ rfl | exact e11 | exact e3) | first | assumption | exact g1.2 _ _ _ rfl | exact e11 | exact e3) | first | assumption | exact g1.2 _ _ _ rfl | exact e11 | exact e3) | first | assumption | exact g1.2 _ _ _ rfl | exact e11 | exact e3) | first | assumption | exact g1.2 _ _ _ rfl | exact e11 | exact e3)) (k := ?_)
                        refine r_iconst hm rfl (k := ?_)
                        refine r_isub hm rfl (hr := (by omega)) (k := ?_)
                        refine r_ireturn hm rfl rfl (by rfl) (Nat.le_of_ble_eq_true rfl) (Nat.le_of_ble_eq_true rfl) ?_
                        have c8 : ¬ fuPut S := by unfold fuPut; omega
                        have ems : msOf kd a = a := if_pos (by omega)
                        have SX : Sm (fun a k => (1088 ≤ a ∧ a ≤ 1092 ∧ 180 ≤ k) ∨ (1093 ≤ a ∧ a ≤ 1095 ∧ 3600 ≤ k) ∨ (a = 1086 ∧ k = 3) ∨ (a = 1085 ∧ k = 11)) h (putI (putI (putI (putI (putI (putI (putI h1 1088 (180 + k) (S.2.2.2.1 : Int)) 1089 (180 + k) kd) 1090 (180 + k) a) 1091 (180 + k) (-1)) 1092 (180 + k) 0) 1086 3 ((S.1.1 : Int) + 1)) 1085 11 ((S.2.2.2.1 : Int) + 1)) := Sm.put (Sm.put (Sm.put (Sm.put (Sm.put (Sm.put (Sm.put S1 (by omega)) (by omega)) (by omega)) (by omega)) (by omega)) (by omega)) (by omega)
                        have SY : Sm (fun a9 k9 => (1088 ≤ a9 ∧ a9 ≤ 1092 ∧ k9 = 180 + k) ∨ a9 = 1086 ∨ a9 = 1085) h1 (putI (putI (putI (putI (putI (putI (putI h1 1088 (180 + k) (S.2.2.2.1 : Int)) 1089 (180 + k) kd) 1090 (180 + k) a) 1091 (180 + k) (-1)) 1092 (180 + k) 0) 1086 3 ((S.1.1 : Int) + 1)) 1085 11 ((S.2.2.2.1 : Int) + 1)) := Sm.put (Sm.put (Sm.put (Sm.put (Sm.put (Sm.put (Sm.put Sm.refl (by omega)) (by omega)) (by omega)) (by omega)) (by omega)) (by omega)) (by omega)
                        unfold oPut aPut
                        rw [if_pos ⟨c9, c8⟩, if_pos c9, if_neg c8]
                        refine ⟨?_, SX.mono (fun a9 k9 z => by omega), by congr 2; omega⟩
                        unfold nwPut
                        rw [ems, Int.toNat_natCast]
                        have oky := (oPut_ok (i := (k : Int)) (kd := kd) (a := a) ok).1
                        unfold oPut at oky
                        rw [if_pos ⟨c9, c8⟩] at oky
                        unfold nwPut at oky
                        rw [ems, Int.toNat_natCast] at oky
                        refine I.mut (gv := S.2.2.2.1 + 1) ok SX (fun a k z => by omega) (rw3_rep (x := S.1) (fun i9 hi9 => by have := oky.2.1 i9 hi9; unfold okIt at this; exact this.2.2.2.2.2.2.2.2.2.1) (by show S.1.1 + 1 ≤ 60; omega) ?_ (fun m hm => ?_) (fun k9 hk9 => ?_)) putI_eq
                        · rw [putI_ne (by omega), putI_eq]; rfl
                        · have hm2 : m < S.1.1 + 1 := hm
                          by_cases em : m = k
                          · have eS : shI S.1.1 k m = S.1.1 := by unfold shI; rw [if_pos em]
                            refine ⟨fun f hf => ?_, fun g9 k9 hg9 hk9 h4 => ?_⟩
                            · show _ = if shI S.1.1 k m = S.1.1 then (if f = 0 then (S.2.2.2.1 : Int) else if f = 1 then kd else if f = 2 then a else if f = 3 then -1 else 0) else _
                              rw [if_pos eS, em]
                              have : f = 0 ∨ f = 1 ∨ f = 2 ∨ f = 3 ∨ f = 4 := by omega
                              rcases this with rfl | rfl | rfl | rfl | rfl <;> simp (disch := omega) only [putI_fne, putI_feq, upf_ne, upf_eq] <;> first | rfl | (simp; done)
                            · have h5 : (k9 : Int) < if shI S.1.1 k m = S.1.1 then (if (4 : Nat) = 0 then (S.2.2.2.1 : Int) else if (4 : Nat) = 1 then kd else if (4 : Nat) = 2 then a else if (4 : Nat) = 3 then -1 else 0) else _ := h4
                              rw [if_pos eS] at h5
                              simp at h5
                              omega
                          · by_cases lm : m < k
                            · exact ((rA m lm).same SY (fun a9 k9 z z2 => by unfold rgR at z2; omega)).ex (by omega) (by unfold shI; (repeat' split) <;> omega)
                            · exact ((rB m (by omega) (by omega)).same SY (fun a9 k9 z z2 => by unfold rgR at z2; omega)).ex (by omega) (by unfold shI; (repeat' split) <;> omega)
                        · exact (SX.2.2 _ _ (by omega)).trans (S0 k9 hk9)
                  · have qC := m_copy g1 (fr := 180 + k - 1) (to := 180 + k) (by omega) (by omega) (by omega)
                    rw [show (((180 + k - 1 : Nat)) : Int) = 180 + (k : Int) - 1 by omega, show (((180 + k : Nat)) : Int) = 180 + (k : Int) by omega] at qC
                    refine r_aload_n hm rfl (k := ?_)
                    refine r_sipush hm rfl (k := ?_)
                    refine r_iload hm rfl (k := ?_)
                    refine r_iadd hm rfl (hr := (by omega)) (k := ?_)
                    refine r_iconst hm rfl (k := ?_)
                    refine r_isub hm rfl (hr := (by omega)) (k := ?_)
                    refine r_sipush hm rfl (k := ?_)
                    refine r_iload hm rfl (k := ?_)
                    refine r_iadd hm rfl (hr := (by omega)) (k := ?_)
                    refine r_callv (j2 := 163) hm rfl rfl rfl rfl rfl rfl (by first | assumption | exact (g1.1 _).trans rfl) (Nat.le_of_ble_eq_true rfl) (Nat.le_of_ble_eq_true rfl) rfl ⟨Nat.le_of_ble_eq_true rfl, Nat.le_of_ble_eq_true rfl, Nat.le_of_ble_eq_true rfl, Nat.le_of_ble_eq_true rfl, Nat.le_of_ble_eq_true rfl⟩ rfl (qC) (fun v9 hB p9 => ?_)
                    obtain ⟨SB, cF, cP, e1⟩ := p9
                    subst e1
                    change RN 161 156 _ _ _ 0 0 _
                    dsimp only [Option.toList, List.nil_append]
                    refine r_iinc hm rfl (hr := (by omega)) (k := ?_)
                    refine r_goto (t := 132) hm rfl (k := ?_)
                    have b9 := ih (d - 1) (by omega) (k - 1) hB (by omega) (by omega) (S1.trans (SB.mono (fun a k z => by unfold rgR at z; omega))) ((SB.2.2 _ _ (by unfold rgR; omega)).trans e11) ((SB.2.2 _ _ (by unfold rgR; omega)).trans e3) (fun m hm => (rA m (by omega)).same SB (fun a k9 z z2 => by unfold rgR at z z2; omega)) (fun m hm hm2 => by
                      by_cases em : m = k
                      · subst em
                        exact (show Rw h1 (180 + m - 1) S.1 (m - 1) by rw [show 180 + m - 1 = 180 + (m - 1) by omega]; exact rA (m - 1) (by omega)).cp cF cP
                      · exact (rB m (by omega) hm2).same SB (fun a k9 z z2 => by unfold rgR at z z2; omega))
                    rw [show (((k - 1 : Nat)) : Int) = (k : Int) + -1 by omega] at b9
                    exact b9
                · refine r_sipush hm rfl (k := ?_)
                  refine r_ireturn hm rfl rfl (by rfl) (Nat.le_of_ble_eq_true rfl) (Nat.le_of_ble_eq_true rfl) ?_
                  have c8 : fuPut S := by unfold fuPut; omega
                  unfold oPut aPut
                  rw [if_neg (fun z => z.2 c8), if_pos c9, if_pos c8]
                  exact ⟨I, Sm.refl, rfl⟩
            · refine r_sipush hm rfl (k := ?_)
              refine r_ireturn hm rfl rfl (by rfl) (Nat.le_of_ble_eq_true rfl) (Nat.le_of_ble_eq_true rfl) ?_
              have c9 : ¬ gdPut S i kd a := fun z => by unfold gdPut at z; omega
              unfold oPut aPut
              rw [if_neg (fun z => c9 z.1), if_neg c9]
              exact ⟨I, Sm.refl, rfl⟩
        · refine r_iload_n hm rfl (k := ?_)
          refine r_i2l hm rfl (k := ?_)
          refine r_lconst hm rfl (k := ?_)
          refine r_ldc2 hm rfl (hd := rfl) (k := ?_)
          refine r_calls (j2 := 162) hm rfl rfl rfl rfl rfl rfl (Nat.le_of_ble_eq_true rfl) (Nat.le_of_ble_eq_true rfl) rfl ⟨Nat.le_of_ble_eq_true rfl, Nat.le_of_ble_eq_true rfl, Nat.le_of_ble_eq_true rfl, Nat.le_of_ble_eq_true rfl, Nat.le_of_ble_eq_true rfl⟩ rfl (m_in (z := a) (a := 1) (b := 4) (zL_t ha0) rfl rfl) (fun v9 h9 p9 => ?_)
          obtain ⟨e1, e2⟩ := p9
          subst e2
          replace e1 := e1.symm
          subst e1
          obtain ⟨b7, eb7, hb7⟩ := ite01 (p := (1 : Int) ≤ a ∧ a ≤ (4 : Int))
          rw [eb7]
          change RN 161 75 _ _ _ 0 0 _
          dsimp only [Option.toList, List.cons_append, List.nil_append]
          refine r_if_eq (t := 95) hm rfl rfl (fun c75 => ?_) (fun c75 => ?_)
          · refine r_sipush hm rfl (k := ?_)
            refine r_ireturn hm rfl rfl (by rfl) (Nat.le_of_ble_eq_true rfl) (Nat.le_of_ble_eq_true rfl) ?_
            have c9 : ¬ gdPut S i kd a := fun z => by unfold gdPut at z; omega
            unfold oPut aPut
            rw [if_neg (fun z => c9 z.1), if_neg c9]
            exact ⟨I, Sm.refl, rfl⟩
          · refine r_iload hm rfl (k := ?_)
            refine r_if_eq (t := 99) hm rfl rfl (fun c80 => ?_) (fun c80 => ?_)
            · have c9 : gdPut S i kd a := by unfold gdPut; omega
              have hi9 : 0 ≤ i ∧ i ≤ (S.1.1 : Int) := by omega
              try clear hb6
              try clear hb7
              clear hb8 hb9
              refine r_aload_n hm rfl (k := ?_)
              refine r_getR (hm := hm) (hf := rfl) (hd := rfl) (hs := (by first | assumption | exact (g1.1 _).trans rfl)) (hv := (by first | exact putI_eq | exact (putI_ne (by omega)).trans (by first | exact putI_eq | exact (putI_ne (by omega)).trans (by first | exact putI_eq | exact (putI_ne (by omega)).trans (by first | exact putI_eq | exact (putI_ne (by omega)).trans (by first | exact putI_eq | exact (putI_ne (by omega)).trans (by first | exact putI_eq | exact (putI_ne (by omega)).trans (by first | exact putI_eq | exact (putI_ne (by omega)).trans (by first | first | assumption | exact g1.2 _ _ _ rfl | exact e11 | exact e3) | first | assumption | exact g1.2 _ _ _ rfl | exact e11 | exact e3) | first | assumption | exact g1.2 _ _ _ rfl | exact e11 | exact e3) | first | assumption | exact g1.2 _ _ _ rfl | exact e11 | exact e3) | first | assumption | exact g1.2 _ _ _ rfl | exact e11 | exact e3) | first | assumption | exact g1.2 _ _ _ rfl | exact e11 | exact e3) | first | assumption | exact g1.2 _ _ _ rfl | exact e11 | exact e3) | first | assumption | exact g1.2 _ _ _ rfl | exact e11 | exact e3)) (k := ?_)
              refine r_iconst hm rfl (k := ?_)
              refine r_iald (hm := hm) (hf := rfl) (hs := (by first | assumption | exact (g1.1 _).trans rfl)) (kk := 3) (hi := by omega) (hn := (by omega)) (hv := (by first | exact putI_eq | exact (putI_ne (by omega)).trans (by first | exact putI_eq | exact (putI_ne (by omega)).trans (by first | exact putI_eq | exact (putI_ne (by omega)).trans (by first | exact putI_eq | exact (putI_ne (by omega)).trans (by first | exact putI_eq | exact (putI_ne (by omega)).trans (by first | exact putI_eq | exact (putI_ne (by omega)).trans (by first | exact putI_eq | exact (putI_ne (by omega)).trans (by first | first | assumption | exact g1.2 _ _ _ rfl | exact e11 | exact e3) | first | assumption | exact g1.2 _ _ _ rfl | exact e11 | exact e3) | first | assumption | exact g1.2 _ _ _ rfl | exact e11 | exact e3) | first | assumption | exact g1.2 _ _ _ rfl | exact e11 | exact e3) | first | assumption | exact g1.2 _ _ _ rfl | exact e11 | exact e3) | first | assumption | exact g1.2 _ _ _ rfl | exact e11 | exact e3) | first | assumption | exact g1.2 _ _ _ rfl | exact e11 | exact e3) | first | assumption | exact g1.2 _ _ _ rfl | exact e11 | exact e3)) (k := ?_)
              refine r_bipush hm rfl (k := ?_)
              refine r_icmp_eq (t := 120) hm rfl rfl (fun c107 => ?_) (fun c107 => ?_)
              · refine r_sipush hm rfl (k := ?_)
                refine r_ireturn hm rfl rfl (by rfl) (Nat.le_of_ble_eq_true rfl) (Nat.le_of_ble_eq_true rfl) ?_
                have c8 : fuPut S := by unfold fuPut; omega
                unfold oPut aPut
                rw [if_neg (fun z => z.2 c8), if_pos c9, if_pos c8]
                exact ⟨I, Sm.refl, rfl⟩
              · refine r_aload_n hm rfl (k := ?_)
                refine r_getI (hm := hm) (hf := rfl) (hd := rfl) (hs := (by first | assumption | exact (g1.1 _).trans rfl)) (hv := (by first | exact putI_eq | exact (putI_ne (by omega)).trans (by first | exact putI_eq | exact (putI_ne (by omega)).trans (by first | exact putI_eq | exact (putI_ne (by omega)).trans (by first | exact putI_eq | exact (putI_ne (by omega)).trans (by first | exact putI_eq | exact (putI_ne (by omega)).trans (by first | exact putI_eq | exact (putI_ne (by omega)).trans (by first | exact putI_eq | exact (putI_ne (by omega)).trans (by first | first | assumption | exact g1.2 _ _ _ rfl | exact e11 | exact e3) | first | assumption | exact g1.2 _ _ _ rfl | exact e11 | exact e3) | first | assumption | exact g1.2 _ _ _ rfl | exact e11 | exact e3) | first | assumption | exact g1.2 _ _ _ rfl | exact e11 | exact e3) | first | assumption | exact g1.2 _ _ _ rfl | exact e11 | exact e3) | first | assumption | exact g1.2 _ _ _ rfl | exact e11 | exact e3) | first | assumption | exact g1.2 _ _ _ rfl | exact e11 | exact e3) | first | assumption | exact g1.2 _ _ _ rfl | exact e11 | exact e3)) (k := ?_)
                refine r_sipush hm rfl (k := ?_)
                refine r_icmp_ne (t := 124) hm rfl rfl (fun c117 => ?_) (fun c117 => ?_)
                · obtain ⟨q, rfl⟩ := Int.eq_ofNat_of_zero_le (show 0 ≤ i by omega)
                  refine r_aload_n hm rfl (k := ?_)
                  refine r_getR (hm := hm) (hf := rfl) (hd := rfl) (hs := (by first | assumption | exact (g1.1 _).trans rfl)) (hv := (by first | exact putI_eq | exact (putI_ne (by omega)).trans (by first | exact putI_eq | exact (putI_ne (by omega)).trans (by first | exact putI_eq | exact (putI_ne (by omega)).trans (by first | exact putI_eq | exact (putI_ne (by omega)).trans (by first | exact putI_eq | exact (putI_ne (by omega)).trans (by first | exact putI_eq | exact (putI_ne (by omega)).trans (by first | exact putI_eq | exact (putI_ne (by omega)).trans (by first | first | assumption | exact g1.2 _ _ _ rfl | exact e11 | exact e3) | first | assumption | exact g1.2 _ _ _ rfl | exact e11 | exact e3) | first | assumption | exact g1.2 _ _ _ rfl | exact e11 | exact e3) | first | assumption | exact g1.2 _ _ _ rfl | exact e11 | exact e3) | first | assumption | exact g1.2 _ _ _ rfl | exact e11 | exact e3) | first | assumption | exact g1.2 _ _ _ rfl | exact e11 | exact e3) | first | assumption | exact g1.2 _ _ _ rfl | exact e11 | exact e3) | first | assumption | exact g1.2 _ _ _ rfl | exact e11 | exact e3)) (k := ?_)
                  refine r_iconst hm rfl (k := ?_)
                  refine r_iald (hm := hm) (hf := rfl) (hs := (by first | assumption | exact (g1.1 _).trans rfl)) (kk := 3) (hi := by omega) (hn := (by omega)) (hv := (by first | exact putI_eq | exact (putI_ne (by omega)).trans (by first | exact putI_eq | exact (putI_ne (by omega)).trans (by first | exact putI_eq | exact (putI_ne (by omega)).trans (by first | exact putI_eq | exact (putI_ne (by omega)).trans (by first | exact putI_eq | exact (putI_ne (by omega)).trans (by first | exact putI_eq | exact (putI_ne (by omega)).trans (by first | exact putI_eq | exact (putI_ne (by omega)).trans (by first | first | assumption | exact g1.2 _ _ _ rfl | exact e11 | exact e3) | first | assumption | exact g1.2 _ _ _ rfl | exact e11 | exact e3) | first | assumption | exact g1.2 _ _ _ rfl | exact e11 | exact e3) | first | assumption | exact g1.2 _ _ _ rfl | exact e11 | exact e3) | first | assumption | exact g1.2 _ _ _ rfl | exact e11 | exact e3) | first | assumption | exact g1.2 _ _ _ rfl | exact e11 | exact e3) | first | assumption | exact g1.2 _ _ _ rfl | exact e11 | exact e3) | first | assumption | exact g1.2 _ _ _ rfl | exact e11 | exact e3)) (k := ?_)
                  refine r_istore hm rfl (k := ?_)
                  suffices LP : ∀ (d k : Nat) (h1 : Hp), k = q + d → k ≤ S.1.1 → Sm (fun a k => (1088 ≤ a ∧ a ≤ 1092 ∧ 180 ≤ k) ∨ (1093 ≤ a ∧ a ≤ 1095 ∧ 3600 ≤ k) ∨ (a = 1086 ∧ k = 3) ∨ (a = 1085 ∧ k = 11)) h h1 → h1.2.1 1085 11 = (S.2.2.2.1 : Int) → h1.2.1 1086 3 = (S.1.1 : Int) → (∀ m, m < k → Rw h1 (180 + m) S.1 m) → (∀ m, k < m → m ≤ S.1.1 → Rw h1 (180 + m) S.1 (m - 1)) → RN 161 132 [some (.inr (.inr (some 1085))), some (.inl (q : Int)), some (.inl kd), some (.inl a), some (.inl b4), some (.inl b5), some (.inl (k : Int))] [] h1 0 0 (fun v h2 => InvM L h2 (oPut S (q : Int) kd a) ∧ FxM h h2 ∧ v = some (.inl (aPut S (q : Int) kd a))) from LP (S.1.1 - q) S.1.1 h (by omega) (Nat.le_refl _) Sm.refl hG N0 (fun m hm => hR.rw3 hm) (fun m hm hm2 => by omega)
                  refine fun d => Nat.strongRecOn d (fun d ih => ?_)
                  intro k h1 hd hk9 S1 e11 e3 rA rB
                  replace g1 := S1.gg g
                  refine r_iload hm rfl (k := ?_)
                  refine r_iload_n hm rfl (k := ?_)
                  refine r_icmp_le (t := 162) hm rfl rfl (fun c135 => ?_) (fun c135 => ?_)
                  · have ek : k = q := by omega
                    subst ek
                    refine r_aload_n hm rfl (k := ?_)
                    refine r_getR (hm := hm) (hf := rfl) (hd := rfl) (hs := (by first | assumption | exact (g1.1 _).trans rfl)) (hv := (by first | exact putI_eq | exact (putI_ne (by omega)).trans (by first | exact putI_eq | exact (putI_ne (by omega)).trans (by first | exact putI_eq | exact (putI_ne (by omega)).trans (by first | exact putI_eq | exact (putI_ne (by omega)).trans (by first | exact putI_eq | exact (putI_ne (by omega)).trans (by first | exact putI_eq | exact (putI_ne (by omega)).trans (by first | exact putI_eq | exact (putI_ne (by omega)).trans (by first | first | assumption | exact g1.2 _ _ _ rfl | exact e11 | exact e3) | first | assumption | exact g1.2 _ _ _ rfl | exact e11 | exact e3) | first | assumption | exact g1.2 _ _ _ rfl | exact e11 | exact e3) | first | assumption | exact g1.2 _ _ _ rfl | exact e11 | exact e3) | first | assumption | exact g1.2 _ _ _ rfl | exact e11 | exact e3) | first | assumption | exact g1.2 _ _ _ rfl | exact e11 | exact e3) | first | assumption | exact g1.2 _ _ _ rfl | exact e11 | exact e3) | first | assumption | exact g1.2 _ _ _ rfl | exact e11 | exact e3)) (k := ?_)
                    refine r_sipush hm rfl (k := ?_)
                    refine r_iload_n hm rfl (k := ?_)
                    refine r_iadd hm rfl (hr := (by omega)) (k := ?_)
                    refine r_aload_n hm rfl (k := ?_)
                    refine r_getI (hm := hm) (hf := rfl) (hd := rfl) (hs := (by first | assumption | exact (g1.1 _).trans rfl)) (hv := (by first | exact putI_eq | exact (putI_ne (by omega)).trans (by first | exact putI_eq | exact (putI_ne (by omega)).trans (by first | exact putI_eq | exact (putI_ne (by omega)).trans (by first | exact putI_eq | exact (putI_ne (by omega)).trans (by first | exact putI_eq | exact (putI_ne (by omega)).trans (by first | exact putI_eq | exact (putI_ne (by omega)).trans (by first | exact putI_eq | exact (putI_ne (by omega)).trans (by first | first | assumption | exact g1.2 _ _ _ rfl | exact e11 | exact e3) | first | assumption | exact g1.2 _ _ _ rfl | exact e11 | exact e3) | first | assumption | exact g1.2 _ _ _ rfl | exact e11 | exact e3) | first | assumption | exact g1.2 _ _ _ rfl | exact e11 | exact e3) | first | assumption | exact g1.2 _ _ _ rfl | exact e11 | exact e3) | first | assumption | exact g1.2 _ _ _ rfl | exact e11 | exact e3) | first | assumption | exact g1.2 _ _ _ rfl | exact e11 | exact e3) | first | assumption | exact g1.2 _ _ _ rfl | exact e11 | exact e3)) (k := ?_)
                    refine r_iast (hm := hm) (hf := rfl) (h28 := (by omega)) (hs := (by first | assumption | exact (g1.1 _).trans rfl)) (kk := 180 + k) (hi := by omega) (hn := (by omega)) (k := ?_)
                    refine r_aload_n hm rfl (k := ?_)
                    refine r_getR (hm := hm) (hf := rfl) (hd := rfl) (hs := (by first | assumption | exact (g1.1 _).trans rfl)) (hv := (by first | exact putI_eq | exact (putI_ne (by omega)).trans (by first | exact putI_eq | exact (putI_ne (by omega)).trans (by first | exact putI_eq | exact (putI_ne (by omega)).trans (by first | exact putI_eq | exact (putI_ne (by omega)).trans (by first | exact putI_eq | exact (putI_ne (by omega)).trans (by first | exact putI_eq | exact (putI_ne (by omega)).trans (by first | exact putI_eq | exact (putI_ne (by omega)).trans (by first | first | assumption | exact g1.2 _ _ _ rfl | exact e11 | exact e3) | first | assumption | exact g1.2 _ _ _ rfl | exact e11 | exact e3) | first | assumption | exact g1.2 _ _ _ rfl | exact e11 | exact e3) | first | assumption | exact g1.2 _ _ _ rfl | exact e11 | exact e3) | first | assumption | exact g1.2 _ _ _ rfl | exact e11 | exact e3) | first | assumption | exact g1.2 _ _ _ rfl | exact e11 | exact e3) | first | assumption | exact g1.2 _ _ _ rfl | exact e11 | exact e3) | first | assumption | exact g1.2 _ _ _ rfl | exact e11 | exact e3)) (k := ?_)
                    refine r_sipush hm rfl (k := ?_)
                    refine r_iload_n hm rfl (k := ?_)
                    refine r_iadd hm rfl (hr := (by omega)) (k := ?_)
                    refine r_iload_n hm rfl (k := ?_)
                    refine r_iast (hm := hm) (hf := rfl) (h28 := (by omega)) (hs := (by first | assumption | exact (g1.1 _).trans rfl)) (kk := 180 + k) (hi := by omega) (hn := (by omega)) (k := ?_)
                    refine r_aload_n hm rfl (k := ?_)
                    refine r_getR (hm := hm) (hf := rfl) (hd := rfl) (hs := (by first | assumption | exact (g1.1 _).trans rfl)) (hv := (by first | exact putI_eq | exact (putI_ne (by omega)).trans (by first | exact putI_eq | exact (putI_ne (by omega)).trans (by first | exact putI_eq | exact (putI_ne (by omega)).trans (by first | exact putI_eq | exact (putI_ne (by omega)).trans (by first | exact putI_eq | exact (putI_ne (by omega)).trans (by first | exact putI_eq | exact (putI_ne (by omega)).trans (by first | exact putI_eq | exact (putI_ne (by omega)).trans (by first | first | assumption | exact g1.2 _ _ _ rfl | exact e11 | exact e3) | first | assumption | exact g1.2 _ _ _ rfl | exact e11 | exact e3) | first | assumption | exact g1.2 _ _ _ rfl | exact e11 | exact e3) | first | assumption | exact g1.2 _ _ _ rfl | exact e11 | exact e3) | first | assumption | exact g1.2 _ _ _ rfl | exact e11 | exact e3) | first | assumption | exact g1.2 _ _ _ rfl | exact e11 | exact e3) | first | assumption | exact g1.2 _ _ _ rfl | exact e11 | exact e3) | first | assumption | exact g1.2 _ _ _ rfl | exact e11 | exact e3)) (k := ?_)
                    refine r_sipush hm rfl (k := ?_)
                    refine r_iload_n hm rfl (k := ?_)
                    refine r_iadd hm rfl (hr := (by omega)) (k := ?_)
                    refine r_iload hm rfl (k := ?_)
                    refine r_if_ne (t := 206) hm rfl rfl (fun c198 => ?_) (fun c198 => ?_)
                    · refine r_iload_n hm rfl (k := ?_)
                      refine r_goto (t := 211) hm rfl (k := ?_)
                      refine r_iast (hm := hm) (hf := rfl) (h28 := (by omega)) (hs := (by first | assumption | exact (g1.1 _).trans rfl)) (kk := 180 + k) (hi := by omega) (hn := (by omega)) (k := ?_)
                      refine r_aload_n hm rfl (k := ?_)
                      refine r_getR (hm := hm) (hf := rfl) (hd := rfl) (hs := (by first | assumption | exact (g1.1 _).trans rfl)) (hv := (by first | exact putI_eq | exact (putI_ne (by omega)).trans (by first | exact putI_eq | exact (putI_ne (by omega)).trans (by first | exact putI_eq | exact (putI_ne (by omega)).trans (by first | exact putI_eq | exact (putI_ne (by omega)).trans (by first | exact putI_eq | exact (putI_ne (by omega)).trans (by first | exact putI_eq | exact (putI_ne (by omega)).trans (by first | exact putI_eq | exact (putI_ne (by omega)).trans (by first | first | assumption | exact g1.2 _ _ _ rfl | exact e11 | exact e3) | first | assumption | exact g1.2 _ _ _ rfl | exact e11 | exact e3) | first | assumption | exact g1.2 _ _ _ rfl | exact e11 | exact e3) | first | assumption | exact g1.2 _ _ _ rfl | exact e11 | exact e3) | first | assumption | exact g1.2 _ _ _ rfl | exact e11 | exact e3) | first | assumption | exact g1.2 _ _ _ rfl | exact e11 | exact e3) | first | assumption | exact g1.2 _ _ _ rfl | exact e11 | exact e3) | first | assumption | exact g1.2 _ _ _ rfl | exact e11 | exact e3)) (k := ?_)
                      refine r_sipush hm rfl (k := ?_)
                      refine r_iload_n hm rfl (k := ?_)
                      refine r_iadd hm rfl (hr := (by omega)) (k := ?_)
                      refine r_iconst hm rfl (k := ?_)
                      refine r_iast (hm := hm) (hf := rfl) (h28 := (by omega)) (hs := (by first | assumption | exact (g1.1 _).trans rfl)) (kk := 180 + k) (hi := by omega) (hn := (by omega)) (k := ?_)
                      refine r_aload_n hm rfl (k := ?_)
                      refine r_getR (hm := hm) (hf := rfl) (hd := rfl) (hs := (by first | assumption | exact (g1.1 _).trans rfl)) (hv := (by first | exact putI_eq | exact (putI_ne (by omega)).trans (by first | exact putI_eq | exact (putI_ne (by omega)).trans (by first | exact putI_eq | exact (putI_ne (by omega)).trans (by first | exact putI_eq | exact (putI_ne (by omega)).trans (by first | exact putI_eq | exact (putI_ne (by omega)).trans (by first | exact putI_eq | exact (putI_ne (by omega)).trans (by first | exact putI_eq | exact (putI_ne (by omega)).trans (by first | first | assumption | exact g1.2 _ _ _ rfl | exact e11 | exact e3) | first | assumption | exact g1.2 _ _ _ rfl | exact e11 | exact e3) | first | assumption | exact g1.2 _ _ _ rfl | exact e11 | exact e3) | first | assumption | exact g1.2 _ _ _ rfl | exact e11 | exact e3) | first | assumption | exact g1.2 _ _ _ rfl | exact e11 | exact e3) | first | assumption | exact g1.2 _ _ _ rfl | exact e11 | exact e3) | first | assumption | exact g1.2 _ _ _ rfl | exact e11 | exact e3) | first | assumption | exact g1.2 _ _ _ rfl | exact e11 | exact e3)) (k := ?_)
                      refine r_sipush hm rfl (k := ?_)
                      refine r_iload_n hm rfl (k := ?_)
                      refine r_iadd hm rfl (hr := (by omega)) (k := ?_)
                      refine r_iconst hm rfl (k := ?_)
                      refine r_iast (hm := hm) (hf := rfl) (h28 := (by omega)) (hs := (by first | assumption | exact (g1.1 _).trans rfl)) (kk := 180 + k) (hi := by omega) (hn := (by omega)) (k := ?_)
                      refine r_aload_n hm rfl (k := ?_)
                      refine r_getR (hm := hm) (hf := rfl) (hd := rfl) (hs := (by first | assumption | exact (g1.1 _).trans rfl)) (hv := (by first | exact putI_eq | exact (putI_ne (by omega)).trans (by first | exact putI_eq | exact (putI_ne (by omega)).trans (by first | exact putI_eq | exact (putI_ne (by omega)).trans (by first | exact putI_eq | exact (putI_ne (by omega)).trans (by first | exact putI_eq | exact (putI_ne (by omega)).trans (by first | exact putI_eq | exact (putI_ne (by omega)).trans (by first | exact putI_eq | exact (putI_ne (by omega)).trans (by first | first | assumption | exact g1.2 _ _ _ rfl | exact e11 | exact e3) | first | assumption | exact g1.2 _ _ _ rfl | exact e11 | exact e3) | first | assumption | exact g1.2 _ _ _ rfl | exact e11 | exact e3) | first | assumption | exact g1.2 _ _ _ rfl | exact e11 | exact e3) | first | assumption | exact g1.2 _ _ _ rfl | exact e11 | exact e3) | first | assumption | exact g1.2 _ _ _ rfl | exact e11 | exact e3) | first | assumption | exact g1.2 _ _ _ rfl | exact e11 | exact e3) | first | assumption | exact g1.2 _ _ _ rfl | exact e11 | exact e3)) (k := ?_)
                      refine r_iconst hm rfl (k := ?_)
                      refine r_dup2 hm rfl (k := ?_)
                      refine r_iald (hm := hm) (hf := rfl) (hs := (by first | assumption | exact (g1.1 _).trans rfl)) (kk := 3) (hi := by omega) (hn := (by omega)) (hv := (by first | exact putI_eq | exact (putI_ne (by omega)).trans (by first | exact putI_eq | exact (putI_ne (by omega)).trans (by first | exact putI_eq | exact (putI_ne (by omega)).trans (by first | exact putI_eq | exact (putI_ne (by omega)).trans (by first | exact putI_eq | exact (putI_ne (by omega)).trans (by first | exact putI_eq | exact (putI_ne (by omega)).trans (by first | exact putI_eq | exact (putI_ne (by omega)).trans (by first | first | assumption | exact g1.2 _ _ _ rfl | exact e11 | exact e3) | first | assumption | exact g1.2 _ _ _ rfl | exact e11 | exact e3) | first | assumption | exact g1.2 _ _ _ rfl | exact e11 | exact e3) | first | assumption | exact g1.2 _ _ _ rfl | exact e11 | exact e3) | first | assumption | exact g1.2 _ _ _ rfl | exact e11 | exact e3) | first | assumption | exact g1.2 _ _ _ rfl | exact e11 | exact e3) | first | assumption | exact g1.2 _ _ _ rfl | exact e11 | exact e3) | first | assumption | exact g1.2 _ _ _ rfl | exact e11 | exact e3)) (k := ?_)
                      refine r_iconst hm rfl (k := ?_)
                      refine r_iadd hm rfl (hr := (by omega)) (k := ?_)
                      refine r_iast (hm := hm) (hf := rfl) (h28 := (by omega)) (hs := (by first | assumption | exact (g1.1 _).trans rfl)) (kk := 3) (hi := by omega) (hn := (by omega)) (k := ?_)
                      refine r_aload_n hm rfl (k := ?_)
                      refine r_dup hm rfl (k := ?_)
                      refine r_getI (hm := hm) (hf := rfl) (hd := rfl) (hs := (by first | assumption | exact (g1.1 _).trans rfl)) (hv := (by first | exact putI_eq | exact (putI_ne (by omega)).trans (by first | exact putI_eq | exact (putI_ne (by omega)).trans (by first | exact putI_eq | exact (putI_ne (by omega)).trans (by first | exact putI_eq | exact (putI_ne (by omega)).trans (by first | exact putI_eq | exact (putI_ne (by omega)).trans (by first | exact putI_eq | exact (putI_ne (by omega)).trans (by first | exact putI_eq | exact (putI_ne (by omega)).trans (by first | first | assumption | exact g1.2 _ _ _ rfl | exact e11 | exact e3) | first | assumption | exact g1.2 _ _ _ rfl | exact e11 | exact e3) | first | assumption | exact g1.2 _ _ _ rfl | exact e11 | exact e3) | first | assumption | exact g1.2 _ _ _ rfl | exact e11 | exact e3) | first | assumption | exact g1.2 _ _ _ rfl | exact e11 | exact e3) | first | assumption | exact g1.2 _ _ _ rfl | exact e11 | exact e3) | first | assumption | exact g1.2 _ _ _ rfl | exact e11 | exact e3) | first | assumption | exact g1.2 _ _ _ rfl | exact e11 | exact e3)) (k := ?_)
                      refine r_iconst hm rfl (k := ?_)
                      refine r_iadd hm rfl (hr := (by omega)) (k := ?_)
                      refine r_putI (hm := hm) (hf := rfl) (hd := rfl) (hs := (by first | assumption | exact (g1.1 _).trans rfl)) (hfin := Or.inl rfl) (hz := fun q9 => absurd q9 (by decide)) (k := ?_)
                      refine r_aload_n hm rfl (k := ?_)
                      refine r_getI (hm := hm) (hf := rfl) (hd := rfl) (hs := (by first | assumption | exact (g1.1 _).trans rfl)) (hv := (by first | exact putI_eq | exact (putI_ne (by omega)).trans (by first | exact putI_eq | exact (putI_ne (by omega)).trans (by first | exact putI_eq | exact (putI_ne (by omega)).trans (by first | exact putI_eq | exact (putI_ne (by omega)).trans (by first | exact putI_eq | exact (putI_ne (by omega)).trans (by first | exact putI_eq | exact (putI_ne (by omega)).trans (by first | exact putI_eq | exact (putI_ne (by omega)).trans (by first | first | assumption | exact g1.2 _ _ _ rfl | exact e11 | exact e3) | first | assumption | exact g1.2 _ _ _ rfl | exact e11 | exact e3) | first | assumption | exact g1.2 _ _ _ rfl | exact e11 | exact e3) | first | assumption | exact g1.2 _ _ _ rfl | exact e11 | exact e3) | first | assumption | exact g1.2 _ _ _ rfl | exact e11 | exact e3) | first | assumption | exact g1.2 _ _ _ rfl | exact e11 | exact e3) | first | assumption | exact g1.2 _ _ _ rfl | exact e11 | exact e3) | first | assumption | exact g1.2 _ _ _ rfl | exact e11 | exact e3)) (k := ?_)
                      refine r_iconst hm rfl (k := ?_)
                      refine r_isub hm rfl (hr := (by omega)) (k := ?_)
                      refine r_ireturn hm rfl rfl (by rfl) (Nat.le_of_ble_eq_true rfl) (Nat.le_of_ble_eq_true rfl) ?_
                      have c8 : ¬ fuPut S := by unfold fuPut; omega
                      have ems : msOf kd a = a := if_pos (by omega)
                      have SX : Sm (fun a k => (1088 ≤ a ∧ a ≤ 1092 ∧ 180 ≤ k) ∨ (1093 ≤ a ∧ a ≤ 1095 ∧ 3600 ≤ k) ∨ (a = 1086 ∧ k = 3) ∨ (a = 1085 ∧ k = 11)) h (putI (putI (putI (putI (putI (putI (putI h1 1088 (180 + k) (S.2.2.2.1 : Int)) 1089 (180 + k) kd) 1090 (180 + k) a) 1091 (180 + k) (-1)) 1092 (180 + k) 0) 1086 3 ((S.1.1 : Int) + 1)) 1085 11 ((S.2.2.2.1 : Int) + 1)) := Sm.put (Sm.put (Sm.put (Sm.put (Sm.put (Sm.put (Sm.put S1 (by omega)) (by omega)) (by omega)) (by omega)) (by omega)) (by omega)) (by omega)
                      have SY : Sm (fun a9 k9 => (1088 ≤ a9 ∧ a9 ≤ 1092 ∧ k9 = 180 + k) ∨ a9 = 1086 ∨ a9 = 1085) h1 (putI (putI (putI (putI (putI (putI (putI h1 1088 (180 + k) (S.2.2.2.1 : Int)) 1089 (180 + k) kd) 1090 (180 + k) a) 1091 (180 + k) (-1)) 1092 (180 + k) 0) 1086 3 ((S.1.1 : Int) + 1)) 1085 11 ((S.2.2.2.1 : Int) + 1)) := Sm.put (Sm.put (Sm.put (Sm.put (Sm.put (Sm.put (Sm.put Sm.refl (by omega)) (by omega)) (by omega)) (by omega)) (by omega)) (by omega)) (by omega)
                      unfold oPut aPut
                      rw [if_pos ⟨c9, c8⟩, if_pos c9, if_neg c8]
                      refine ⟨?_, SX.mono (fun a9 k9 z => by omega), by congr 2; omega⟩
                      unfold nwPut
                      rw [ems, Int.toNat_natCast]
                      have oky := (oPut_ok (i := (k : Int)) (kd := kd) (a := a) ok).1
                      unfold oPut at oky
                      rw [if_pos ⟨c9, c8⟩] at oky
                      unfold nwPut at oky
                      rw [ems, Int.toNat_natCast] at oky
                      refine I.mut (gv := S.2.2.2.1 + 1) ok SX (fun a k z => by omega) (rw3_rep (x := S.1) (fun i9 hi9 => by have := oky.2.1 i9 hi9; unfold okIt at this; exact this.2.2.2.2.2.2.2.2.2.1) (by show S.1.1 + 1 ≤ 60; omega) ?_ (fun m hm => ?_) (fun k9 hk9 => ?_)) putI_eq
                      · rw [putI_ne (by omega), putI_eq]; rfl
                      · have hm2 : m < S.1.1 + 1 := hm
                        by_cases em : m = k
                        · have eS : shI S.1.1 k m = S.1.1 := by unfold shI; rw [if_pos em]
                          refine ⟨fun f hf => ?_, fun g9 k9 hg9 hk9 h4 => ?_⟩
                          · show _ = if shI S.1.1 k m = S.1.1 then (if f = 0 then (S.2.2.2.1 : Int) else if f = 1 then kd else if f = 2 then a else if f = 3 then -1 else 0) else _
                            rw [if_pos eS, em]
                            have : f = 0 ∨ f = 1 ∨ f = 2 ∨ f = 3 ∨ f = 4 := by omega
                            rcases this with rfl | rfl | rfl | rfl | rfl <;> simp (disch := omega) only [putI_fne, putI_feq, upf_ne, upf_eq] <;> first | rfl | (simp; done)
                          · have h5 : (k9 : Int) < if shI S.1.1 k m = S.1.1 then (if (4 : Nat) = 0 then (S.2.2.2.1 : Int) else if (4 : Nat) = 1 then kd else if (4 : Nat) = 2 then a else if (4 : Nat) = 3 then -1 else 0) else _ := h4
                            rw [if_pos eS] at h5
                            simp at h5
                            omega
                        · by_cases lm : m < k
                          · exact ((rA m lm).same SY (fun a9 k9 z z2 => by unfold rgR at z2; omega)).ex (by omega) (by unfold shI; (repeat' split) <;> omega)
                          · exact ((rB m (by omega) (by omega)).same SY (fun a9 k9 z z2 => by unfold rgR at z2; omega)).ex (by omega) (by unfold shI; (repeat' split) <;> omega)
                      · exact (SX.2.2 _ _ (by omega)).trans (S0 k9 hk9)
                    · exfalso; omega
                  · have qC := m_copy g1 (fr := 180 + k - 1) (to := 180 + k) (by omega) (by omega) (by omega)
                    rw [show (((180 + k - 1 : Nat)) : Int) = 180 + (k : Int) - 1 by omega, show (((180 + k : Nat)) : Int) = 180 + (k : Int) by omega] at qC
                    refine r_aload_n hm rfl (k := ?_)
                    refine r_sipush hm rfl (k := ?_)
                    refine r_iload hm rfl (k := ?_)
                    refine r_iadd hm rfl (hr := (by omega)) (k := ?_)
                    refine r_iconst hm rfl (k := ?_)
                    refine r_isub hm rfl (hr := (by omega)) (k := ?_)
                    refine r_sipush hm rfl (k := ?_)
                    refine r_iload hm rfl (k := ?_)
                    refine r_iadd hm rfl (hr := (by omega)) (k := ?_)
                    refine r_callv (j2 := 163) hm rfl rfl rfl rfl rfl rfl (by first | assumption | exact (g1.1 _).trans rfl) (Nat.le_of_ble_eq_true rfl) (Nat.le_of_ble_eq_true rfl) rfl ⟨Nat.le_of_ble_eq_true rfl, Nat.le_of_ble_eq_true rfl, Nat.le_of_ble_eq_true rfl, Nat.le_of_ble_eq_true rfl, Nat.le_of_ble_eq_true rfl⟩ rfl (qC) (fun v9 hB p9 => ?_)
                    obtain ⟨SB, cF, cP, e1⟩ := p9
                    subst e1
                    change RN 161 156 _ _ _ 0 0 _
                    dsimp only [Option.toList, List.nil_append]
                    refine r_iinc hm rfl (hr := (by omega)) (k := ?_)
                    refine r_goto (t := 132) hm rfl (k := ?_)
                    have b9 := ih (d - 1) (by omega) (k - 1) hB (by omega) (by omega) (S1.trans (SB.mono (fun a k z => by unfold rgR at z; omega))) ((SB.2.2 _ _ (by unfold rgR; omega)).trans e11) ((SB.2.2 _ _ (by unfold rgR; omega)).trans e3) (fun m hm => (rA m (by omega)).same SB (fun a k9 z z2 => by unfold rgR at z z2; omega)) (fun m hm hm2 => by
                      by_cases em : m = k
                      · subst em
                        exact (show Rw h1 (180 + m - 1) S.1 (m - 1) by rw [show 180 + m - 1 = 180 + (m - 1) by omega]; exact rA (m - 1) (by omega)).cp cF cP
                      · exact (rB m (by omega) hm2).same SB (fun a k9 z z2 => by unfold rgR at z z2; omega))
                    rw [show (((k - 1 : Nat)) : Int) = (k : Int) + -1 by omega] at b9
                    exact b9
                · refine r_sipush hm rfl (k := ?_)
                  refine r_ireturn hm rfl rfl (by rfl) (Nat.le_of_ble_eq_true rfl) (Nat.le_of_ble_eq_true rfl) ?_
                  have c8 : fuPut S := by unfold fuPut; omega
                  unfold oPut aPut
                  rw [if_neg (fun z => z.2 c8), if_pos c9, if_pos c8]
                  exact ⟨I, Sm.refl, rfl⟩
            · exfalso; omega
  refine r_iload_n hm rfl (k := ?_)
  refine r_if_eq (t := 9) hm rfl rfl (fun c1 => ?_) (fun c1 => ?_)
  · refine r_iconst hm rfl (k := ?_)
    refine r_goto (t := 14) hm rfl (k := ?_)
    refine r_istore hm rfl (k := ?_)
    refine r_iload_n hm rfl (k := ?_)
    refine r_iconst hm rfl (k := ?_)
    refine r_icmp_eq (t := 26) hm rfl rfl (fun c18 => ?_) (fun c18 => ?_)
    · refine r_iconst hm rfl (k := ?_)
      refine r_goto (t := 31) hm rfl (k := ?_)
      refine r_istore hm rfl (k := ?_)
      exact MG _ _ (by omega) (by omega)
    · refine r_iload_n hm rfl (k := ?_)
      refine r_iconst hm rfl (k := ?_)
      refine r_icmp_ne (t := 30) hm rfl rfl (fun c23 => ?_) (fun c23 => ?_)
      · refine r_iconst hm rfl (k := ?_)
        refine r_istore hm rfl (k := ?_)
        exact MG _ _ (by omega) (by omega)
      · refine r_iconst hm rfl (k := ?_)
        refine r_goto (t := 31) hm rfl (k := ?_)
        refine r_istore hm rfl (k := ?_)
        exact MG _ _ (by omega) (by omega)
  · refine r_iload_n hm rfl (k := ?_)
    refine r_iconst hm rfl (k := ?_)
    refine r_icmp_ne (t := 13) hm rfl rfl (fun c6 => ?_) (fun c6 => ?_)
    · refine r_iconst hm rfl (k := ?_)
      refine r_istore hm rfl (k := ?_)
      refine r_iload_n hm rfl (k := ?_)
      refine r_iconst hm rfl (k := ?_)
      refine r_icmp_eq (t := 26) hm rfl rfl (fun c18 => ?_) (fun c18 => ?_)
      · refine r_iconst hm rfl (k := ?_)
        refine r_goto (t := 31) hm rfl (k := ?_)
        refine r_istore hm rfl (k := ?_)
        exact MG _ _ (by omega) (by omega)
      · refine r_iload_n hm rfl (k := ?_)
        refine r_iconst hm rfl (k := ?_)
        refine r_icmp_ne (t := 30) hm rfl rfl (fun c23 => ?_) (fun c23 => ?_)
        · refine r_iconst hm rfl (k := ?_)
          refine r_istore hm rfl (k := ?_)
          exact MG _ _ (by omega) (by omega)
        · refine r_iconst hm rfl (k := ?_)
          refine r_goto (t := 31) hm rfl (k := ?_)
          refine r_istore hm rfl (k := ?_)
          exact MG _ _ (by omega) (by omega)
    · refine r_iconst hm rfl (k := ?_)
      refine r_goto (t := 14) hm rfl (k := ?_)
      refine r_istore hm rfl (k := ?_)
      refine r_iload_n hm rfl (k := ?_)
      refine r_iconst hm rfl (k := ?_)
      refine r_icmp_eq (t := 26) hm rfl rfl (fun c18 => ?_) (fun c18 => ?_)
      · refine r_iconst hm rfl (k := ?_)
        refine r_goto (t := 31) hm rfl (k := ?_)
        refine r_istore hm rfl (k := ?_)
        exact MG _ _ (by omega) (by omega)
      · refine r_iload_n hm rfl (k := ?_)
        refine r_iconst hm rfl (k := ?_)
        refine r_icmp_ne (t := 30) hm rfl rfl (fun c23 => ?_) (fun c23 => ?_)
        · refine r_iconst hm rfl (k := ?_)
          refine r_istore hm rfl (k := ?_)
          exact MG _ _ (by omega) (by omega)
        · refine r_iconst hm rfl (k := ?_)
          refine r_goto (t := 31) hm rfl (k := ?_)
          refine r_istore hm rfl (k := ?_)
          exact MG _ _ (by omega) (by omega)
set_option maxRecDepth 8000 in
theorem m_cut {L : Nat} {h : Hp} {S : St} (I : InvM L h S) (ok : okS S) {i : Int} (hi0 : inI i) : RN 164 0 [some (.inr (.inr (some 1085))), some (.inl i), none, none] [] h 0 0 (fun v h2 => InvM L h2 (oCut S i) ∧ FxM h h2 ∧ v = some (.inl (aCut S i))) := by
  have hm : mrec 164 = some nM164 := rfl
  obtain ⟨g, hR, hV, hK, hG, hL, hB, hFl⟩ := id I
  have hok := ok.1
  obtain ⟨M0, M1, M2, M3, M4, Q0, Q1, Q2, S0, N0, N1⟩ := hR.use
  have n60 := hok.1
  have g1 := g
  have hR1 := hR
  have hH : 8 ≤ S.1.2.2.2 0 ∧ S.1.2.2.2 0 ≤ 60 := by have := hok.2.2.2.2; unfold okStl at this; omega
  refine r_aload_n hm rfl (k := ?_)
  refine r_iload_n hm rfl (k := ?_)
  refine r_callv (j2 := 165) hm rfl rfl rfl rfl rfl rfl (by first | assumption | exact (g1.1 _).trans rfl) (Nat.le_of_ble_eq_true rfl) (Nat.le_of_ble_eq_true rfl) rfl ⟨Nat.le_of_ble_eq_true rfl, Nat.le_of_ble_eq_true rfl, Nat.le_of_ble_eq_true rfl, Nat.le_of_ble_eq_true rfl, Nat.le_of_ble_eq_true rfl⟩ rfl (m_isItem g hR hi0) (fun v9 h9 p9 => ?_)
  obtain ⟨e1, e2⟩ := p9
  subst e2
  replace e1 := e1.symm
  subst e1
  obtain ⟨b9, eb9, hb9⟩ := ite01 (p := 0 ≤ i ∧ i < (S.1.1 : Int))
  rw [eb9]
  change RN 164 5 _ _ _ 0 0 _
  dsimp only [Option.toList, List.cons_append, List.nil_append]
  refine r_if_ne (t := 12) hm rfl rfl (fun c5 => ?_) (fun c5 => ?_)
  · obtain ⟨q, rfl⟩ := Int.eq_ofNat_of_zero_le (show 0 ≤ i by omega)
    refine r_aload_n hm rfl (k := ?_)
    refine r_getR (hm := hm) (hf := rfl) (hd := rfl) (hs := (by first | assumption | exact (g1.1 _).trans rfl)) (hv := (by first | assumption | exact g1.2 _ _ _ rfl | exact M0 _ (by omega) | exact M1 _ (by omega) | exact M2 _ (by omega) | exact M3 _ (by omega) | exact M4 _ (by omega) | exact Q0 _ _ (by omega) (by omega) | exact Q1 _ _ (by omega) (by omega) | exact Q2 _ _ (by omega) (by omega) | exact e3)) (k := ?_)
    refine r_sipush hm rfl (k := ?_)
    refine r_iload_n hm rfl (k := ?_)
    refine r_iadd hm rfl (hr := (by omega)) (k := ?_)
    refine r_iald (hm := hm) (hf := rfl) (hs := (by first | assumption | exact (g1.1 _).trans rfl)) (kk := 60 * 3 + q) (hi := by omega) (hn := (by omega)) (hv := (by first | assumption | exact g1.2 _ _ _ rfl | exact M0 _ (by omega) | exact M1 _ (by omega) | exact M2 _ (by omega) | exact M3 _ (by omega) | exact M4 _ (by omega) | exact Q0 _ _ (by omega) (by omega) | exact Q1 _ _ (by omega) (by omega) | exact Q2 _ _ (by omega) (by omega) | exact e3)) (k := ?_)
    refine r_istore_n hm rfl (k := ?_)
    refine r_aload_n hm rfl (k := ?_)
    refine r_getR (hm := hm) (hf := rfl) (hd := rfl) (hs := (by first | assumption | exact (g1.1 _).trans rfl)) (hv := (by first | assumption | exact g1.2 _ _ _ rfl | exact M0 _ (by omega) | exact M1 _ (by omega) | exact M2 _ (by omega) | exact M3 _ (by omega) | exact M4 _ (by omega) | exact Q0 _ _ (by omega) (by omega) | exact Q1 _ _ (by omega) (by omega) | exact Q2 _ _ (by omega) (by omega) | exact e3)) (k := ?_)
    refine r_iconst hm rfl (k := ?_)
    refine r_dup2 hm rfl (k := ?_)
    refine r_iald (hm := hm) (hf := rfl) (hs := (by first | assumption | exact (g1.1 _).trans rfl)) (kk := 3) (hi := by omega) (hn := (by omega)) (hv := (by first | assumption | exact g1.2 _ _ _ rfl | exact M0 _ (by omega) | exact M1 _ (by omega) | exact M2 _ (by omega) | exact M3 _ (by omega) | exact M4 _ (by omega) | exact Q0 _ _ (by omega) (by omega) | exact Q1 _ _ (by omega) (by omega) | exact Q2 _ _ (by omega) (by omega) | exact e3)) (k := ?_)
    refine r_iconst hm rfl (k := ?_)
    refine r_isub hm rfl (hr := (by omega)) (k := ?_)
    refine r_iast (hm := hm) (hf := rfl) (h28 := (by omega)) (hs := (by first | assumption | exact (g1.1 _).trans rfl)) (kk := 3) (hi := by omega) (hn := (by omega)) (k := ?_)
    refine r_iload_n hm rfl (k := ?_)
    refine r_istore_n hm rfl (k := ?_)
    suffices LP : ∀ (d k : Nat) (h1 : Hp), k + d = S.1.1 - 1 → q ≤ k → Sm (fun a k => (1088 ≤ a ∧ a ≤ 1092 ∧ 180 ≤ k) ∨ (1093 ≤ a ∧ a ≤ 1095 ∧ 3600 ≤ k) ∨ (a = 1086 ∧ k = 3) ∨ (a = 1085 ∧ k = 11)) h h1 → h1.2.1 1086 3 = (S.1.1 : Int) - 1 → h1.2.1 1085 11 = (S.2.2.2.1 : Int) → (∀ m, m < k → Rw h1 (180 + m) S.1 (shI q (S.1.1 - 1) m)) → (∀ m, k ≤ m → m < S.1.1 → Rw h1 (180 + m) S.1 m) → RN 164 35 [some (.inr (.inr (some 1085))), some (.inl (q : Int)), some (.inl (S.1.2.1 0 q)), some (.inl (k : Int))] [] h1 0 0 (fun v h2 => InvM L h2 (oCut S (q : Int)) ∧ FxM h h2 ∧ v = some (.inl (aCut S (q : Int)))) from LP (S.1.1 - 1 - q) q _ (by omega) (Nat.le_refl _) (Sm.put Sm.refl (by omega)) putI_eq ((putI_ne (by omega)).trans hG) (fun m hm => (show Rw h (180 + m) S.1 (shI q (S.1.1 - 1) m) by rw [show shI q (S.1.1 - 1) m = m by unfold shI; (repeat' split) <;> omega]; exact hR.rw3 (by omega)).same (Sm.put (S := fun a k => a = 1086) Sm.refl rfl) (fun a k9 z z2 => by unfold rgR at z2; omega)) (fun m hm hm2 => (hR.rw3 hm2).same (Sm.put (S := fun a k => a = 1086) Sm.refl rfl) (fun a k9 z z2 => by unfold rgR at z2; omega))
    refine fun d => Nat.strongRecOn d (fun d ih => ?_)
    intro k h1 hd hk9 S1 e3 e11 rA rB
    replace g1 := S1.gg g
    refine r_iload_n hm rfl (k := ?_)
    refine r_aload_n hm rfl (k := ?_)
    refine r_getR (hm := hm) (hf := rfl) (hd := rfl) (hs := (by first | assumption | exact (g1.1 _).trans rfl)) (hv := (by first | assumption | exact g1.2 _ _ _ rfl | exact M0 _ (by omega) | exact M1 _ (by omega) | exact M2 _ (by omega) | exact M3 _ (by omega) | exact M4 _ (by omega) | exact Q0 _ _ (by omega) (by omega) | exact Q1 _ _ (by omega) (by omega) | exact Q2 _ _ (by omega) (by omega) | exact e3)) (k := ?_)
    refine r_iconst hm rfl (k := ?_)
    refine r_iald (hm := hm) (hf := rfl) (hs := (by first | assumption | exact (g1.1 _).trans rfl)) (kk := 3) (hi := by omega) (hn := (by omega)) (hv := (by first | assumption | exact g1.2 _ _ _ rfl | exact M0 _ (by omega) | exact M1 _ (by omega) | exact M2 _ (by omega) | exact M3 _ (by omega) | exact M4 _ (by omega) | exact Q0 _ _ (by omega) (by omega) | exact Q1 _ _ (by omega) (by omega) | exact Q2 _ _ (by omega) (by omega) | exact e3)) (k := ?_)
    refine r_icmp_ge (t := 67) hm rfl rfl (fun c42 => ?_) (fun c42 => ?_)
    · refine r_iload_n hm rfl (k := ?_)
      refine r_ireturn hm rfl rfl (by rfl) (Nat.le_of_ble_eq_true rfl) (Nat.le_of_ble_eq_true rfl) ?_
      have ek : k = S.1.1 - 1 := by omega
      have oky := (oCut_ok (i := (q : Int)) ok).1
      unfold oCut at oky
      rw [if_pos (by omega), Int.toNat_natCast] at oky
      unfold oCut aCut
      rw [if_pos (by omega), if_pos (by omega), Int.toNat_natCast]
      refine ⟨?_, S1.mono (fun a9 k9 z => by omega), rfl⟩
      exact I.mut ok S1 (fun a k z => by omega) (rw3_rep (x := S.1) (fun i9 hi9 => by have := oky.2.1 i9 hi9; unfold okIt at this; exact this.2.2.2.2.2.2.2.2.2.1) (by show S.1.1 - 1 ≤ 60; omega) (e3.trans (by show (S.1.1 : Int) - 1 = ((S.1.1 - 1 : Nat) : Int); omega)) (fun m hm => (rA m (by have hm2 : m < S.1.1 - 1 := hm; omega))) (fun k9 hk9 => (S1.2.2 _ _ (by omega)).trans (S0 k9 hk9))) e11
    · have qC := m_copy g1 (fr := 180 + k + 1) (to := 180 + k) (by omega) (by omega) (by omega)
      rw [show (((180 + k + 1 : Nat)) : Int) = 180 + (k : Int) + 1 by omega, show (((180 + k : Nat)) : Int) = 180 + (k : Int) by omega] at qC
      refine r_aload_n hm rfl (k := ?_)
      refine r_sipush hm rfl (k := ?_)
      refine r_iload_n hm rfl (k := ?_)
      refine r_iadd hm rfl (hr := (by omega)) (k := ?_)
      refine r_iconst hm rfl (k := ?_)
      refine r_iadd hm rfl (hr := (by omega)) (k := ?_)
      refine r_sipush hm rfl (k := ?_)
      refine r_iload_n hm rfl (k := ?_)
      refine r_iadd hm rfl (hr := (by omega)) (k := ?_)
      refine r_callv (j2 := 163) hm rfl rfl rfl rfl rfl rfl (by first | assumption | exact (g1.1 _).trans rfl) (Nat.le_of_ble_eq_true rfl) (Nat.le_of_ble_eq_true rfl) rfl ⟨Nat.le_of_ble_eq_true rfl, Nat.le_of_ble_eq_true rfl, Nat.le_of_ble_eq_true rfl, Nat.le_of_ble_eq_true rfl, Nat.le_of_ble_eq_true rfl⟩ rfl (qC) (fun v9 hB p9 => ?_)
      obtain ⟨SB, cF, cP, e1⟩ := p9
      subst e1
      change RN 164 61 _ _ _ 0 0 _
      dsimp only [Option.toList, List.nil_append]
      refine r_iinc hm rfl (hr := (by omega)) (k := ?_)
      refine r_goto (t := 35) hm rfl (k := ?_)
      exact ih (d - 1) (by omega) (k + 1) hB (by omega) (by omega) (S1.trans (SB.mono (fun a k z => by unfold rgR at z; omega))) ((SB.2.2 _ _ (by unfold rgR; omega)).trans e3) ((SB.2.2 _ _ (by unfold rgR; omega)).trans e11) (fun m hm => by
        by_cases em : m = k
        · subst em
          rw [show shI q (S.1.1 - 1) m = m + 1 by unfold shI; (repeat' split) <;> omega]
          exact (rB (m + 1) (by omega) (by omega)).cp cF cP
        · exact (rA m (by omega)).same SB (fun a k9 z z2 => by unfold rgR at z z2; omega)) (fun m hm hm2 => (rB m (by omega) hm2).same SB (fun a k9 z z2 => by unfold rgR at z z2; omega))
  · refine r_sipush hm rfl (k := ?_)
    refine r_ireturn hm rfl rfl (by rfl) (Nat.le_of_ble_eq_true rfl) (Nat.le_of_ble_eq_true rfl) ?_
    unfold oCut aCut
    rw [if_neg (by omega), if_neg (by omega)]
    exact ⟨I, Sm.refl, rfl⟩
theorem m_swapped {h : Hp} {b9 n x1 y1 : Nat} (hs : h.1[b9]? = some (100, n)) (h28 : 28 ≤ b9) (hx : x1 < n) (hy : y1 < n) (hne : x1 ≠ y1) : RN 168 0 [some (.inr (.inr (some 1085))), some (.inr (.inr (some (b9)))), some (.inl (x1 : Int)), some (.inl (y1 : Int)), none] [] h 0 0 (fun v h2 => Sm (fun a k => a = b9 ∧ (k = x1 ∨ k = y1)) h h2 ∧ h2.2.1 b9 x1 = h.2.1 b9 y1 ∧ h2.2.1 b9 y1 = h.2.1 b9 x1 ∧ ∃ z, v = some (.inl z)) := by
  have hm : mrec 168 = some nM168 := rfl
  refine r_aload_n hm rfl (k := ?_)
  refine r_iload_n hm rfl (k := ?_)
  refine r_iald (hm := hm) (hf := rfl) (hs := (by exact hs)) (kk := x1) (hi := by omega) (hn := (by omega)) (hv := (by first | exact rfl)) (k := ?_)
  refine r_istore hm rfl (k := ?_)
  refine r_aload_n hm rfl (k := ?_)
  refine r_iload_n hm rfl (k := ?_)
  refine r_aload_n hm rfl (k := ?_)
  refine r_iload_n hm rfl (k := ?_)
  refine r_iald (hm := hm) (hf := rfl) (hs := (by exact hs)) (kk := y1) (hi := by omega) (hn := (by omega)) (hv := (by first | exact rfl)) (k := ?_)
  refine r_iast (hm := hm) (hf := rfl) (h28 := (by omega)) (hs := (by exact hs)) (kk := x1) (hi := by omega) (hn := (by omega)) (k := ?_)
  refine r_aload_n hm rfl (k := ?_)
  refine r_iload_n hm rfl (k := ?_)
  refine r_iload hm rfl (k := ?_)
  refine r_iast (hm := hm) (hf := rfl) (h28 := (by omega)) (hs := (by exact hs)) (kk := y1) (hi := by omega) (hn := (by omega)) (k := ?_)
  refine r_iload hm rfl (k := ?_)
  refine r_ireturn hm rfl rfl (by rfl) (Nat.le_of_ble_eq_true rfl) (Nat.le_of_ble_eq_true rfl) ?_
  exact ⟨Sm.put (Sm.put Sm.refl (by omega)) (by omega), by rw [putI_ne (by omega), putI_eq], putI_eq, _, rfl⟩
set_option maxRecDepth 8000 in
theorem m_swap {L : Nat} {h : Hp} {x1 y1 : Nat} (g : GG L h) (hx : x1 < 240) (hy : y1 < 240) (hne : x1 ≠ y1) : RN 167 0 [some (.inr (.inr (some 1085))), some (.inl (x1 : Int)), some (.inl (y1 : Int)), none, none] [] h 0 0 (fun v h2 => Sm (fun a k => rgR x1 a k ∨ rgR y1 a k) h h2 ∧ (∀ f, f < 5 → h2.2.1 (1088 + f) x1 = h.2.1 (1088 + f) y1 ∧ h2.2.1 (1088 + f) y1 = h.2.1 (1088 + f) x1) ∧ (∀ g9 k : Nat, g9 < 3 → k < 20 → h2.2.1 (1093 + g9) (20 * x1 + k) = h.2.1 (1093 + g9) (20 * y1 + k) ∧ h2.2.1 (1093 + g9) (20 * y1 + k) = h.2.1 (1093 + g9) (20 * x1 + k)) ∧ v = none) := by
  have hm : mrec 167 = some nM167 := rfl
  have g1 := g
  have SS0 : Sm (fun a k => 1088 ≤ a ∧ a < 1088) h h := Sm.refl
  refine r_aload_n hm rfl (k := ?_)
  refine r_aload_n hm rfl (k := ?_)
  refine r_getR (hm := hm) (hf := rfl) (hd := rfl) (hs := (by first | assumption | exact (g1.1 _).trans rfl)) (hv := (by first | exact putI_eq | exact (putI_ne (by omega)).trans (by first | exact putI_eq | exact (putI_ne (by omega)).trans (by first | exact putI_eq | exact (putI_ne (by omega)).trans (by first | exact putI_eq | exact (putI_ne (by omega)).trans (by first | exact putI_eq | exact (putI_ne (by omega)).trans (by first | exact putI_eq | exact (putI_ne (by omega)).trans (by first | exact putI_eq | exact (putI_ne (by omega)).trans (by first | first | assumption | exact g1.2 _ _ _ rfl | exact vus _ (by omega) (by omega) | exact vwr _ (by omega)) | first | assumption | exact g1.2 _ _ _ rfl | exact vus _ (by omega) (by omega) | exact vwr _ (by omega)) | first | assumption | exact g1.2 _ _ _ rfl | exact vus _ (by omega) (by omega) | exact vwr _ (by omega)) | first | assumption | exact g1.2 _ _ _ rfl | exact vus _ (by omega) (by omega) | exact vwr _ (by omega)) | first | assumption | exact g1.2 _ _ _ rfl | exact vus _ (by omega) (by omega) | exact vwr _ (by omega)) | first | assumption | exact g1.2 _ _ _ rfl | exact vus _ (by omega) (by omega) | exact vwr _ (by omega)) | first | assumption | exact g1.2 _ _ _ rfl | exact vus _ (by omega) (by omega) | exact vwr _ (by omega)) | first | assumption | exact g1.2 _ _ _ rfl | exact vus _ (by omega) (by omega) | exact vwr _ (by omega))) (k := ?_)
  refine r_iload_n hm rfl (k := ?_)
  refine r_iload_n hm rfl (k := ?_)
  refine r_callv (j2 := 168) hm rfl rfl rfl rfl rfl rfl (by first | assumption | exact (g1.1 _).trans rfl) (Nat.le_of_ble_eq_true rfl) (Nat.le_of_ble_eq_true rfl) rfl ⟨Nat.le_of_ble_eq_true rfl, Nat.le_of_ble_eq_true rfl, Nat.le_of_ble_eq_true rfl, Nat.le_of_ble_eq_true rfl, Nat.le_of_ble_eq_true rfl⟩ rfl (m_swapped (b9 := 1088) (n := 240) (x1 := x1) (y1 := y1) ((g1.1 _).trans rfl) (by omega) (by omega) (by omega) (by omega)) (fun v9 hA p9 => ?_)
  obtain ⟨SB, ex, ey, zz0, e1⟩ := p9
  subst e1
  have F0 : hA.2.1 1088 x1 = h.2.1 1088 y1 ∧ hA.2.1 1088 y1 = h.2.1 1088 x1 := ⟨ex.trans (SS0.2.2 _ _ (by omega)), ey.trans (SS0.2.2 _ _ (by omega))⟩
  have SS1 : Sm (fun a k => 1088 ≤ a ∧ a < 1089 ∧ (k = x1 ∨ k = y1)) h hA := (SS0.mono (fun a k z => by omega)).trans (SB.mono (fun a k z => by omega))
  replace g1 := SS1.gg g
  change RN 167 10 _ _ _ 0 0 _
  dsimp only [Option.toList, List.cons_append, List.nil_append]
  refine r_aload_n hm rfl (k := ?_)
  refine r_aload_n hm rfl (k := ?_)
  refine r_getR (hm := hm) (hf := rfl) (hd := rfl) (hs := (by first | assumption | exact (g1.1 _).trans rfl)) (hv := (by first | exact putI_eq | exact (putI_ne (by omega)).trans (by first | exact putI_eq | exact (putI_ne (by omega)).trans (by first | exact putI_eq | exact (putI_ne (by omega)).trans (by first | exact putI_eq | exact (putI_ne (by omega)).trans (by first | exact putI_eq | exact (putI_ne (by omega)).trans (by first | exact putI_eq | exact (putI_ne (by omega)).trans (by first | exact putI_eq | exact (putI_ne (by omega)).trans (by first | first | assumption | exact g1.2 _ _ _ rfl | exact vus _ (by omega) (by omega) | exact vwr _ (by omega)) | first | assumption | exact g1.2 _ _ _ rfl | exact vus _ (by omega) (by omega) | exact vwr _ (by omega)) | first | assumption | exact g1.2 _ _ _ rfl | exact vus _ (by omega) (by omega) | exact vwr _ (by omega)) | first | assumption | exact g1.2 _ _ _ rfl | exact vus _ (by omega) (by omega) | exact vwr _ (by omega)) | first | assumption | exact g1.2 _ _ _ rfl | exact vus _ (by omega) (by omega) | exact vwr _ (by omega)) | first | assumption | exact g1.2 _ _ _ rfl | exact vus _ (by omega) (by omega) | exact vwr _ (by omega)) | first | assumption | exact g1.2 _ _ _ rfl | exact vus _ (by omega) (by omega) | exact vwr _ (by omega)) | first | assumption | exact g1.2 _ _ _ rfl | exact vus _ (by omega) (by omega) | exact vwr _ (by omega))) (k := ?_)
  refine r_iload_n hm rfl (k := ?_)
  refine r_iload_n hm rfl (k := ?_)
  refine r_callv (j2 := 168) hm rfl rfl rfl rfl rfl rfl (by first | assumption | exact (g1.1 _).trans rfl) (Nat.le_of_ble_eq_true rfl) (Nat.le_of_ble_eq_true rfl) rfl ⟨Nat.le_of_ble_eq_true rfl, Nat.le_of_ble_eq_true rfl, Nat.le_of_ble_eq_true rfl, Nat.le_of_ble_eq_true rfl, Nat.le_of_ble_eq_true rfl⟩ rfl (m_swapped (b9 := 1089) (n := 240) (x1 := x1) (y1 := y1) ((g1.1 _).trans rfl) (by omega) (by omega) (by omega) (by omega)) (fun v9 hB p9 => ?_)
  obtain ⟨SB, ex, ey, zz1, e1⟩ := p9
  subst e1
  have F1 : hB.2.1 1089 x1 = h.2.1 1089 y1 ∧ hB.2.1 1089 y1 = h.2.1 1089 x1 := ⟨ex.trans (SS1.2.2 _ _ (by omega)), ey.trans (SS1.2.2 _ _ (by omega))⟩
  replace F0 : hB.2.1 1088 x1 = h.2.1 1088 y1 ∧ hB.2.1 1088 y1 = h.2.1 1088 x1 := ⟨(SB.2.2 _ _ (by omega)).trans F0.1, (SB.2.2 _ _ (by omega)).trans F0.2⟩
  have SS2 : Sm (fun a k => 1088 ≤ a ∧ a < 1090 ∧ (k = x1 ∨ k = y1)) h hB := (SS1.mono (fun a k z => by omega)).trans (SB.mono (fun a k z => by omega))
  replace g1 := SS2.gg g
  change RN 167 20 _ _ _ 0 0 _
  dsimp only [Option.toList, List.cons_append, List.nil_append]
  refine r_iaddw hm rfl (k := ?_)
  refine r_aload_n hm rfl (k := ?_)
  refine r_aload_n hm rfl (k := ?_)
  refine r_getR (hm := hm) (hf := rfl) (hd := rfl) (hs := (by first | assumption | exact (g1.1 _).trans rfl)) (hv := (by first | exact putI_eq | exact (putI_ne (by omega)).trans (by first | exact putI_eq | exact (putI_ne (by omega)).trans (by first | exact putI_eq | exact (putI_ne (by omega)).trans (by first | exact putI_eq | exact (putI_ne (by omega)).trans (by first | exact putI_eq | exact (putI_ne (by omega)).trans (by first | exact putI_eq | exact (putI_ne (by omega)).trans (by first | exact putI_eq | exact (putI_ne (by omega)).trans (by first | first | assumption | exact g1.2 _ _ _ rfl | exact vus _ (by omega) (by omega) | exact vwr _ (by omega)) | first | assumption | exact g1.2 _ _ _ rfl | exact vus _ (by omega) (by omega) | exact vwr _ (by omega)) | first | assumption | exact g1.2 _ _ _ rfl | exact vus _ (by omega) (by omega) | exact vwr _ (by omega)) | first | assumption | exact g1.2 _ _ _ rfl | exact vus _ (by omega) (by omega) | exact vwr _ (by omega)) | first | assumption | exact g1.2 _ _ _ rfl | exact vus _ (by omega) (by omega) | exact vwr _ (by omega)) | first | assumption | exact g1.2 _ _ _ rfl | exact vus _ (by omega) (by omega) | exact vwr _ (by omega)) | first | assumption | exact g1.2 _ _ _ rfl | exact vus _ (by omega) (by omega) | exact vwr _ (by omega)) | first | assumption | exact g1.2 _ _ _ rfl | exact vus _ (by omega) (by omega) | exact vwr _ (by omega))) (k := ?_)
  refine r_iload_n hm rfl (k := ?_)
  refine r_iload_n hm rfl (k := ?_)
  refine r_callv (j2 := 168) hm rfl rfl rfl rfl rfl rfl (by first | assumption | exact (g1.1 _).trans rfl) (Nat.le_of_ble_eq_true rfl) (Nat.le_of_ble_eq_true rfl) rfl ⟨Nat.le_of_ble_eq_true rfl, Nat.le_of_ble_eq_true rfl, Nat.le_of_ble_eq_true rfl, Nat.le_of_ble_eq_true rfl, Nat.le_of_ble_eq_true rfl⟩ rfl (m_swapped (b9 := 1090) (n := 240) (x1 := x1) (y1 := y1) ((g1.1 _).trans rfl) (by omega) (by omega) (by omega) (by omega)) (fun v9 hC p9 => ?_)
  obtain ⟨SB, ex, ey, zz2, e1⟩ := p9
  subst e1
  have F2 : hC.2.1 1090 x1 = h.2.1 1090 y1 ∧ hC.2.1 1090 y1 = h.2.1 1090 x1 := ⟨ex.trans (SS2.2.2 _ _ (by omega)), ey.trans (SS2.2.2 _ _ (by omega))⟩
  replace F0 : hC.2.1 1088 x1 = h.2.1 1088 y1 ∧ hC.2.1 1088 y1 = h.2.1 1088 x1 := ⟨(SB.2.2 _ _ (by omega)).trans F0.1, (SB.2.2 _ _ (by omega)).trans F0.2⟩
  replace F1 : hC.2.1 1089 x1 = h.2.1 1089 y1 ∧ hC.2.1 1089 y1 = h.2.1 1089 x1 := ⟨(SB.2.2 _ _ (by omega)).trans F1.1, (SB.2.2 _ _ (by omega)).trans F1.2⟩
  have SS3 : Sm (fun a k => 1088 ≤ a ∧ a < 1091 ∧ (k = x1 ∨ k = y1)) h hC := (SS2.mono (fun a k z => by omega)).trans (SB.mono (fun a k z => by omega))
  replace g1 := SS3.gg g
  change RN 167 31 _ _ _ 0 0 _
  dsimp only [Option.toList, List.cons_append, List.nil_append]
  refine r_iaddw hm rfl (k := ?_)
  refine r_aload_n hm rfl (k := ?_)
  refine r_aload_n hm rfl (k := ?_)
  refine r_getR (hm := hm) (hf := rfl) (hd := rfl) (hs := (by first | assumption | exact (g1.1 _).trans rfl)) (hv := (by first | exact putI_eq | exact (putI_ne (by omega)).trans (by first | exact putI_eq | exact (putI_ne (by omega)).trans (by first | exact putI_eq | exact (putI_ne (by omega)).trans (by first | exact putI_eq | exact (putI_ne (by omega)).trans (by first | exact putI_eq | exact (putI_ne (by omega)).trans (by first | exact putI_eq | exact (putI_ne (by omega)).trans (by first | exact putI_eq | exact (putI_ne (by omega)).trans (by first | first | assumption | exact g1.2 _ _ _ rfl | exact vus _ (by omega) (by omega) | exact vwr _ (by omega)) | first | assumption | exact g1.2 _ _ _ rfl | exact vus _ (by omega) (by omega) | exact vwr _ (by omega)) | first | assumption | exact g1.2 _ _ _ rfl | exact vus _ (by omega) (by omega) | exact vwr _ (by omega)) | first | assumption | exact g1.2 _ _ _ rfl | exact vus _ (by omega) (by omega) | exact vwr _ (by omega)) | first | assumption | exact g1.2 _ _ _ rfl | exact vus _ (by omega) (by omega) | exact vwr _ (by omega)) | first | assumption | exact g1.2 _ _ _ rfl | exact vus _ (by omega) (by omega) | exact vwr _ (by omega)) | first | assumption | exact g1.2 _ _ _ rfl | exact vus _ (by omega) (by omega) | exact vwr _ (by omega)) | first | assumption | exact g1.2 _ _ _ rfl | exact vus _ (by omega) (by omega) | exact vwr _ (by omega))) (k := ?_)
  refine r_iload_n hm rfl (k := ?_)
  refine r_iload_n hm rfl (k := ?_)
  refine r_callv (j2 := 168) hm rfl rfl rfl rfl rfl rfl (by first | assumption | exact (g1.1 _).trans rfl) (Nat.le_of_ble_eq_true rfl) (Nat.le_of_ble_eq_true rfl) rfl ⟨Nat.le_of_ble_eq_true rfl, Nat.le_of_ble_eq_true rfl, Nat.le_of_ble_eq_true rfl, Nat.le_of_ble_eq_true rfl, Nat.le_of_ble_eq_true rfl⟩ rfl (m_swapped (b9 := 1091) (n := 240) (x1 := x1) (y1 := y1) ((g1.1 _).trans rfl) (by omega) (by omega) (by omega) (by omega)) (fun v9 hD p9 => ?_)
  obtain ⟨SB, ex, ey, zz3, e1⟩ := p9
  subst e1
  have F3 : hD.2.1 1091 x1 = h.2.1 1091 y1 ∧ hD.2.1 1091 y1 = h.2.1 1091 x1 := ⟨ex.trans (SS3.2.2 _ _ (by omega)), ey.trans (SS3.2.2 _ _ (by omega))⟩
  replace F0 : hD.2.1 1088 x1 = h.2.1 1088 y1 ∧ hD.2.1 1088 y1 = h.2.1 1088 x1 := ⟨(SB.2.2 _ _ (by omega)).trans F0.1, (SB.2.2 _ _ (by omega)).trans F0.2⟩
  replace F1 : hD.2.1 1089 x1 = h.2.1 1089 y1 ∧ hD.2.1 1089 y1 = h.2.1 1089 x1 := ⟨(SB.2.2 _ _ (by omega)).trans F1.1, (SB.2.2 _ _ (by omega)).trans F1.2⟩
  replace F2 : hD.2.1 1090 x1 = h.2.1 1090 y1 ∧ hD.2.1 1090 y1 = h.2.1 1090 x1 := ⟨(SB.2.2 _ _ (by omega)).trans F2.1, (SB.2.2 _ _ (by omega)).trans F2.2⟩
  have SS4 : Sm (fun a k => 1088 ≤ a ∧ a < 1092 ∧ (k = x1 ∨ k = y1)) h hD := (SS3.mono (fun a k z => by omega)).trans (SB.mono (fun a k z => by omega))
  replace g1 := SS4.gg g
  change RN 167 42 _ _ _ 0 0 _
  dsimp only [Option.toList, List.cons_append, List.nil_append]
  refine r_iaddw hm rfl (k := ?_)
  refine r_aload_n hm rfl (k := ?_)
  refine r_aload_n hm rfl (k := ?_)
  refine r_getR (hm := hm) (hf := rfl) (hd := rfl) (hs := (by first | assumption | exact (g1.1 _).trans rfl)) (hv := (by first | exact putI_eq | exact (putI_ne (by omega)).trans (by first | exact putI_eq | exact (putI_ne (by omega)).trans (by first | exact putI_eq | exact (putI_ne (by omega)).trans (by first | exact putI_eq | exact (putI_ne (by omega)).trans (by first | exact putI_eq | exact (putI_ne (by omega)).trans (by first | exact putI_eq | exact (putI_ne (by omega)).trans (by first | exact putI_eq | exact (putI_ne (by omega)).trans (by first | first | assumption | exact g1.2 _ _ _ rfl | exact vus _ (by omega) (by omega) | exact vwr _ (by omega)) | first | assumption | exact g1.2 _ _ _ rfl | exact vus _ (by omega) (by omega) | exact vwr _ (by omega)) | first | assumption | exact g1.2 _ _ _ rfl | exact vus _ (by omega) (by omega) | exact vwr _ (by omega)) | first | assumption | exact g1.2 _ _ _ rfl | exact vus _ (by omega) (by omega) | exact vwr _ (by omega)) | first | assumption | exact g1.2 _ _ _ rfl | exact vus _ (by omega) (by omega) | exact vwr _ (by omega)) | first | assumption | exact g1.2 _ _ _ rfl | exact vus _ (by omega) (by omega) | exact vwr _ (by omega)) | first | assumption | exact g1.2 _ _ _ rfl | exact vus _ (by omega) (by omega) | exact vwr _ (by omega)) | first | assumption | exact g1.2 _ _ _ rfl | exact vus _ (by omega) (by omega) | exact vwr _ (by omega))) (k := ?_)
  refine r_iload_n hm rfl (k := ?_)
  refine r_iload_n hm rfl (k := ?_)
  refine r_callv (j2 := 168) hm rfl rfl rfl rfl rfl rfl (by first | assumption | exact (g1.1 _).trans rfl) (Nat.le_of_ble_eq_true rfl) (Nat.le_of_ble_eq_true rfl) rfl ⟨Nat.le_of_ble_eq_true rfl, Nat.le_of_ble_eq_true rfl, Nat.le_of_ble_eq_true rfl, Nat.le_of_ble_eq_true rfl, Nat.le_of_ble_eq_true rfl⟩ rfl (m_swapped (b9 := 1092) (n := 240) (x1 := x1) (y1 := y1) ((g1.1 _).trans rfl) (by omega) (by omega) (by omega) (by omega)) (fun v9 hE p9 => ?_)
  obtain ⟨SB, ex, ey, zz4, e1⟩ := p9
  subst e1
  have F4 : hE.2.1 1092 x1 = h.2.1 1092 y1 ∧ hE.2.1 1092 y1 = h.2.1 1092 x1 := ⟨ex.trans (SS4.2.2 _ _ (by omega)), ey.trans (SS4.2.2 _ _ (by omega))⟩
  replace F0 : hE.2.1 1088 x1 = h.2.1 1088 y1 ∧ hE.2.1 1088 y1 = h.2.1 1088 x1 := ⟨(SB.2.2 _ _ (by omega)).trans F0.1, (SB.2.2 _ _ (by omega)).trans F0.2⟩
  replace F1 : hE.2.1 1089 x1 = h.2.1 1089 y1 ∧ hE.2.1 1089 y1 = h.2.1 1089 x1 := ⟨(SB.2.2 _ _ (by omega)).trans F1.1, (SB.2.2 _ _ (by omega)).trans F1.2⟩
  replace F2 : hE.2.1 1090 x1 = h.2.1 1090 y1 ∧ hE.2.1 1090 y1 = h.2.1 1090 x1 := ⟨(SB.2.2 _ _ (by omega)).trans F2.1, (SB.2.2 _ _ (by omega)).trans F2.2⟩
  replace F3 : hE.2.1 1091 x1 = h.2.1 1091 y1 ∧ hE.2.1 1091 y1 = h.2.1 1091 x1 := ⟨(SB.2.2 _ _ (by omega)).trans F3.1, (SB.2.2 _ _ (by omega)).trans F3.2⟩
  have SS5 : Sm (fun a k => 1088 ≤ a ∧ a < 1093 ∧ (k = x1 ∨ k = y1)) h hE := (SS4.mono (fun a k z => by omega)).trans (SB.mono (fun a k z => by omega))
  replace g1 := SS5.gg g
  change RN 167 53 _ _ _ 0 0 _
  dsimp only [Option.toList, List.cons_append, List.nil_append]
  refine r_iaddw hm rfl (k := ?_)
  refine r_istore_n hm rfl (k := ?_)
  refine r_iconst hm rfl (k := ?_)
  refine r_istore hm rfl (k := ?_)
  suffices LP : ∀ (d k : Nat) (h1 : Hp) (w9 : Int), k + d = 20 → Sm (fun a k => rgR x1 a k ∨ rgR y1 a k) h h1 → (∀ f, f < 5 → h1.2.1 (1088 + f) x1 = h.2.1 (1088 + f) y1 ∧ h1.2.1 (1088 + f) y1 = h.2.1 (1088 + f) x1) → (∀ g9 k2 : Nat, g9 < 3 → k2 < k → h1.2.1 (1093 + g9) (20 * x1 + k2) = h.2.1 (1093 + g9) (20 * y1 + k2) ∧ h1.2.1 (1093 + g9) (20 * y1 + k2) = h.2.1 (1093 + g9) (20 * x1 + k2)) → (∀ g9 k2 : Nat, g9 < 3 → k ≤ k2 → k2 < 20 → h1.2.1 (1093 + g9) (20 * x1 + k2) = h.2.1 (1093 + g9) (20 * x1 + k2) ∧ h1.2.1 (1093 + g9) (20 * y1 + k2) = h.2.1 (1093 + g9) (20 * y1 + k2)) → RN 167 58 [some (.inr (.inr (some 1085))), some (.inl (x1 : Int)), some (.inl (y1 : Int)), some (.inl w9), some (.inl (k : Int))] [] h1 0 0 (fun v h2 => Sm (fun a k => rgR x1 a k ∨ rgR y1 a k) h h2 ∧ (∀ f, f < 5 → h2.2.1 (1088 + f) x1 = h.2.1 (1088 + f) y1 ∧ h2.2.1 (1088 + f) y1 = h.2.1 (1088 + f) x1) ∧ (∀ g9 k : Nat, g9 < 3 → k < 20 → h2.2.1 (1093 + g9) (20 * x1 + k) = h.2.1 (1093 + g9) (20 * y1 + k) ∧ h2.2.1 (1093 + g9) (20 * y1 + k) = h.2.1 (1093 + g9) (20 * x1 + k)) ∧ v = none) from LP 20 0 _ _ (by omega) (SS5.mono (fun a k z => by unfold rgR; omega)) (fun f hf => by
    have : f = 0 ∨ f = 1 ∨ f = 2 ∨ f = 3 ∨ f = 4 := by omega
    rcases this with rfl | rfl | rfl | rfl | rfl
    · exact F0
    · exact F1
    · exact F2
    · exact F3
    · exact F4) (fun g9 k2 hg9 hk2 => by omega) (fun g9 k2 hg9 hk1 hk2 => ⟨SS5.2.2 _ _ (by omega), SS5.2.2 _ _ (by omega)⟩)
  clear g1 F0 F1 F2 F3 F4 SS1 SS2 SS3 SS4 SS5 SS0
  refine fun d => Nat.strongRecOn d (fun d ih => ?_)
  intro k h1 w9 hd S1 eF eP eQ
  have g1 := S1.gg g
  have SS0 : Sm (fun a k => False) h1 h1 := Sm.refl
  have q0 := eQ 0 k (by omega)
  have q1 := eQ 1 k (by omega)
  have q2 := eQ 2 k (by omega)
  refine r_iload hm rfl (k := ?_)
  refine r_bipush hm rfl (k := ?_)
  refine r_icmp_ge (t := 142) hm rfl rfl (fun c62 => ?_) (fun c62 => ?_)
  · refine r_return hm rfl rfl (Nat.le_of_ble_eq_true rfl) (Nat.le_of_ble_eq_true rfl) ?_
    have ek : k = 20 := by omega
    subst ek
    exact ⟨S1, eF, fun g9 k hg9 hk => eP g9 k hg9 hk, rfl⟩
  · have qs0 := m_swapped (h := h1) (b9 := 1093) (n := 4800) (x1 := 20 * x1 + k) (y1 := 20 * y1 + k) ((g1.1 _).trans rfl) (by omega) (by omega) (by omega) (by omega)
    rw [show (((20 * x1 + k : Nat)) : Int) = 20 * (x1 : Int) + (k : Int) by omega, show (((20 * y1 + k : Nat)) : Int) = 20 * (y1 : Int) + (k : Int) by omega] at qs0
    refine r_iload_n hm rfl (k := ?_)
    refine r_aload_n hm rfl (k := ?_)
    refine r_aload_n hm rfl (k := ?_)
    refine r_getR (hm := hm) (hf := rfl) (hd := rfl) (hs := (by first | assumption | exact (g1.1 _).trans rfl)) (hv := (by first | exact putI_eq | exact (putI_ne (by omega)).trans (by first | exact putI_eq | exact (putI_ne (by omega)).trans (by first | exact putI_eq | exact (putI_ne (by omega)).trans (by first | exact putI_eq | exact (putI_ne (by omega)).trans (by first | exact putI_eq | exact (putI_ne (by omega)).trans (by first | exact putI_eq | exact (putI_ne (by omega)).trans (by first | exact putI_eq | exact (putI_ne (by omega)).trans (by first | first | assumption | exact g1.2 _ _ _ rfl | exact vus _ (by omega) (by omega) | exact vwr _ (by omega)) | first | assumption | exact g1.2 _ _ _ rfl | exact vus _ (by omega) (by omega) | exact vwr _ (by omega)) | first | assumption | exact g1.2 _ _ _ rfl | exact vus _ (by omega) (by omega) | exact vwr _ (by omega)) | first | assumption | exact g1.2 _ _ _ rfl | exact vus _ (by omega) (by omega) | exact vwr _ (by omega)) | first | assumption | exact g1.2 _ _ _ rfl | exact vus _ (by omega) (by omega) | exact vwr _ (by omega)) | first | assumption | exact g1.2 _ _ _ rfl | exact vus _ (by omega) (by omega) | exact vwr _ (by omega)) | first | assumption | exact g1.2 _ _ _ rfl | exact vus _ (by omega) (by omega) | exact vwr _ (by omega)) | first | assumption | exact g1.2 _ _ _ rfl | exact vus _ (by omega) (by omega) | exact vwr _ (by omega))) (k := ?_)
    refine r_bipush hm rfl (k := ?_)
    refine r_iload_n hm rfl (k := ?_)
    refine r_imul hm rfl (hr := (by omega)) (k := ?_)
    refine r_iload hm rfl (k := ?_)
    refine r_iadd hm rfl (hr := (by omega)) (k := ?_)
    refine r_bipush hm rfl (k := ?_)
    refine r_iload_n hm rfl (k := ?_)
    refine r_imul hm rfl (hr := (by omega)) (k := ?_)
    refine r_iload hm rfl (k := ?_)
    refine r_iadd hm rfl (hr := (by omega)) (k := ?_)
    refine r_callv (j2 := 168) hm rfl rfl rfl rfl rfl rfl (by first | assumption | exact (g1.1 _).trans rfl) (Nat.le_of_ble_eq_true rfl) (Nat.le_of_ble_eq_true rfl) rfl ⟨Nat.le_of_ble_eq_true rfl, Nat.le_of_ble_eq_true rfl, Nat.le_of_ble_eq_true rfl, Nat.le_of_ble_eq_true rfl, Nat.le_of_ble_eq_true rfl⟩ rfl (qs0) (fun v9 hA p9 => ?_)
    obtain ⟨SB, ex, ey, zz0, e1⟩ := p9
    subst e1
    have F0 : hA.2.1 1093 (20 * x1 + k) = h.2.1 1093 (20 * y1 + k) ∧ hA.2.1 1093 (20 * y1 + k) = h.2.1 1093 (20 * x1 + k) := ⟨ex.trans ((SS0.2.2 _ _ (fun z => z.elim)).trans (q0 (by omega) (by omega)).2), ey.trans ((SS0.2.2 _ _ (fun z => z.elim)).trans (q0 (by omega) (by omega)).1)⟩
    have SS1 : Sm (fun a k9 => 1093 ≤ a ∧ a < 1094 ∧ (k9 = 20 * x1 + k ∨ k9 = 20 * y1 + k)) h1 hA := (SS0.mono (fun a k z => z.elim)).trans (SB.mono (fun a k z => by omega))
    replace g1 := SS1.gg (S1.gg g)
    change RN 167 88 _ _ _ 0 0 _
    dsimp only [Option.toList, List.cons_append, List.nil_append]
    have qs1 := m_swapped (h := hA) (b9 := 1094) (n := 4800) (x1 := 20 * x1 + k) (y1 := 20 * y1 + k) ((g1.1 _).trans rfl) (by omega) (by omega) (by omega) (by omega)
    rw [show (((20 * x1 + k : Nat)) : Int) = 20 * (x1 : Int) + (k : Int) by omega, show (((20 * y1 + k : Nat)) : Int) = 20 * (y1 : Int) + (k : Int) by omega] at qs1
    refine r_aload_n hm rfl (k := ?_)
    refine r_aload_n hm rfl (k := ?_)
    refine r_getR (hm := hm) (hf := rfl) (hd := rfl) (hs := (by first | assumption | exact (g1.1 _).trans rfl)) (hv := (by first | exact putI_eq | exact (putI_ne (by omega)).trans (by first | exact putI_eq | exact (putI_ne (by omega)).trans (by first | exact putI_eq | exact (putI_ne (by omega)).trans (by first | exact putI_eq | exact (putI_ne (by omega)).trans (by first | exact putI_eq | exact (putI_ne (by omega)).trans (by first | exact putI_eq | exact (putI_ne (by omega)).trans (by first | exact putI_eq | exact (putI_ne (by omega)).trans (by first | first | assumption | exact g1.2 _ _ _ rfl | exact vus _ (by omega) (by omega) | exact vwr _ (by omega)) | first | assumption | exact g1.2 _ _ _ rfl | exact vus _ (by omega) (by omega) | exact vwr _ (by omega)) | first | assumption | exact g1.2 _ _ _ rfl | exact vus _ (by omega) (by omega) | exact vwr _ (by omega)) | first | assumption | exact g1.2 _ _ _ rfl | exact vus _ (by omega) (by omega) | exact vwr _ (by omega)) | first | assumption | exact g1.2 _ _ _ rfl | exact vus _ (by omega) (by omega) | exact vwr _ (by omega)) | first | assumption | exact g1.2 _ _ _ rfl | exact vus _ (by omega) (by omega) | exact vwr _ (by omega)) | first | assumption | exact g1.2 _ _ _ rfl | exact vus _ (by omega) (by omega) | exact vwr _ (by omega)) | first | assumption | exact g1.2 _ _ _ rfl | exact vus _ (by omega) (by omega) | exact vwr _ (by omega))) (k := ?_)
    refine r_bipush hm rfl (k := ?_)
    refine r_iload_n hm rfl (k := ?_)
    refine r_imul hm rfl (hr := (by omega)) (k := ?_)
    refine r_iload hm rfl (k := ?_)
    refine r_iadd hm rfl (hr := (by omega)) (k := ?_)
    refine r_bipush hm rfl (k := ?_)
    refine r_iload_n hm rfl (k := ?_)
    refine r_imul hm rfl (hr := (by omega)) (k := ?_)
    refine r_iload hm rfl (k := ?_)
    refine r_iadd hm rfl (hr := (by omega)) (k := ?_)
    refine r_callv (j2 := 168) hm rfl rfl rfl rfl rfl rfl (by first | assumption | exact (g1.1 _).trans rfl) (Nat.le_of_ble_eq_true rfl) (Nat.le_of_ble_eq_true rfl) rfl ⟨Nat.le_of_ble_eq_true rfl, Nat.le_of_ble_eq_true rfl, Nat.le_of_ble_eq_true rfl, Nat.le_of_ble_eq_true rfl, Nat.le_of_ble_eq_true rfl⟩ rfl (qs1) (fun v9 hB p9 => ?_)
    obtain ⟨SB, ex, ey, zz1, e1⟩ := p9
    subst e1
    have F1 : hB.2.1 1094 (20 * x1 + k) = h.2.1 1094 (20 * y1 + k) ∧ hB.2.1 1094 (20 * y1 + k) = h.2.1 1094 (20 * x1 + k) := ⟨ex.trans ((SS1.2.2 _ _ (by omega)).trans (q1 (by omega) (by omega)).2), ey.trans ((SS1.2.2 _ _ (by omega)).trans (q1 (by omega) (by omega)).1)⟩
    replace F0 : hB.2.1 1093 (20 * x1 + k) = h.2.1 1093 (20 * y1 + k) ∧ hB.2.1 1093 (20 * y1 + k) = h.2.1 1093 (20 * x1 + k) := ⟨(SB.2.2 _ _ (by omega)).trans F0.1, (SB.2.2 _ _ (by omega)).trans F0.2⟩
    have SS2 : Sm (fun a k9 => 1093 ≤ a ∧ a < 1095 ∧ (k9 = 20 * x1 + k ∨ k9 = 20 * y1 + k)) h1 hB := (SS1.mono (fun a k z => by omega)).trans (SB.mono (fun a k z => by omega))
    replace g1 := SS2.gg (S1.gg g)
    change RN 167 110 _ _ _ 0 0 _
    dsimp only [Option.toList, List.cons_append, List.nil_append]
    refine r_iaddw hm rfl (k := ?_)
    have qs2 := m_swapped (h := hB) (b9 := 1095) (n := 4800) (x1 := 20 * x1 + k) (y1 := 20 * y1 + k) ((g1.1 _).trans rfl) (by omega) (by omega) (by omega) (by omega)
    rw [show (((20 * x1 + k : Nat)) : Int) = 20 * (x1 : Int) + (k : Int) by omega, show (((20 * y1 + k : Nat)) : Int) = 20 * (y1 : Int) + (k : Int) by omega] at qs2
    refine r_aload_n hm rfl (k := ?_)
    refine r_aload_n hm rfl (k := ?_)
    refine r_getR (hm := hm) (hf := rfl) (hd := rfl) (hs := (by first | assumption | exact (g1.1 _).trans rfl)) (hv := (by first | exact putI_eq | exact (putI_ne (by omega)).trans (by first | exact putI_eq | exact (putI_ne (by omega)).trans (by first | exact putI_eq | exact (putI_ne (by omega)).trans (by first | exact putI_eq | exact (putI_ne (by omega)).trans (by first | exact putI_eq | exact (putI_ne (by omega)).trans (by first | exact putI_eq | exact (putI_ne (by omega)).trans (by first | exact putI_eq | exact (putI_ne (by omega)).trans (by first | first | assumption | exact g1.2 _ _ _ rfl | exact vus _ (by omega) (by omega) | exact vwr _ (by omega)) | first | assumption | exact g1.2 _ _ _ rfl | exact vus _ (by omega) (by omega) | exact vwr _ (by omega)) | first | assumption | exact g1.2 _ _ _ rfl | exact vus _ (by omega) (by omega) | exact vwr _ (by omega)) | first | assumption | exact g1.2 _ _ _ rfl | exact vus _ (by omega) (by omega) | exact vwr _ (by omega)) | first | assumption | exact g1.2 _ _ _ rfl | exact vus _ (by omega) (by omega) | exact vwr _ (by omega)) | first | assumption | exact g1.2 _ _ _ rfl | exact vus _ (by omega) (by omega) | exact vwr _ (by omega)) | first | assumption | exact g1.2 _ _ _ rfl | exact vus _ (by omega) (by omega) | exact vwr _ (by omega)) | first | assumption | exact g1.2 _ _ _ rfl | exact vus _ (by omega) (by omega) | exact vwr _ (by omega))) (k := ?_)
    refine r_bipush hm rfl (k := ?_)
    refine r_iload_n hm rfl (k := ?_)
    refine r_imul hm rfl (hr := (by omega)) (k := ?_)
    refine r_iload hm rfl (k := ?_)
    refine r_iadd hm rfl (hr := (by omega)) (k := ?_)
    refine r_bipush hm rfl (k := ?_)
    refine r_iload_n hm rfl (k := ?_)
    refine r_imul hm rfl (hr := (by omega)) (k := ?_)
    refine r_iload hm rfl (k := ?_)
    refine r_iadd hm rfl (hr := (by omega)) (k := ?_)
    refine r_callv (j2 := 168) hm rfl rfl rfl rfl rfl rfl (by first | assumption | exact (g1.1 _).trans rfl) (Nat.le_of_ble_eq_true rfl) (Nat.le_of_ble_eq_true rfl) rfl ⟨Nat.le_of_ble_eq_true rfl, Nat.le_of_ble_eq_true rfl, Nat.le_of_ble_eq_true rfl, Nat.le_of_ble_eq_true rfl, Nat.le_of_ble_eq_true rfl⟩ rfl (qs2) (fun v9 hC p9 => ?_)
    obtain ⟨SB, ex, ey, zz2, e1⟩ := p9
    subst e1
    have F2 : hC.2.1 1095 (20 * x1 + k) = h.2.1 1095 (20 * y1 + k) ∧ hC.2.1 1095 (20 * y1 + k) = h.2.1 1095 (20 * x1 + k) := ⟨ex.trans ((SS2.2.2 _ _ (by omega)).trans (q2 (by omega) (by omega)).2), ey.trans ((SS2.2.2 _ _ (by omega)).trans (q2 (by omega) (by omega)).1)⟩
    replace F0 : hC.2.1 1093 (20 * x1 + k) = h.2.1 1093 (20 * y1 + k) ∧ hC.2.1 1093 (20 * y1 + k) = h.2.1 1093 (20 * x1 + k) := ⟨(SB.2.2 _ _ (by omega)).trans F0.1, (SB.2.2 _ _ (by omega)).trans F0.2⟩
    replace F1 : hC.2.1 1094 (20 * x1 + k) = h.2.1 1094 (20 * y1 + k) ∧ hC.2.1 1094 (20 * y1 + k) = h.2.1 1094 (20 * x1 + k) := ⟨(SB.2.2 _ _ (by omega)).trans F1.1, (SB.2.2 _ _ (by omega)).trans F1.2⟩
    have SS3 : Sm (fun a k9 => 1093 ≤ a ∧ a < 1096 ∧ (k9 = 20 * x1 + k ∨ k9 = 20 * y1 + k)) h1 hC := (SS2.mono (fun a k z => by omega)).trans (SB.mono (fun a k z => by omega))
    replace g1 := SS3.gg (S1.gg g)
    change RN 167 133 _ _ _ 0 0 _
    dsimp only [Option.toList, List.cons_append, List.nil_append]
    refine r_iaddw hm rfl (k := ?_)
    refine r_iaddw hm rfl (k := ?_)
    refine r_istore_n hm rfl (k := ?_)
    refine r_iinc hm rfl (hr := (by omega)) (k := ?_)
    refine r_goto (t := 58) hm rfl (k := ?_)
    refine ih (d - 1) (by omega) (k + 1) hC _ (by omega) (S1.trans (SS3.mono (fun a k9 z => by unfold rgR; omega))) (fun f hf => ⟨(SS3.2.2 _ _ (by omega)).trans (eF f hf).1, (SS3.2.2 _ _ (by omega)).trans (eF f hf).2⟩) (fun g9 k2 hg9 hk2 => ?_) (fun g9 k2 hg9 hk1 hk2 => ?_)
    · by_cases ek : k2 = k
      · subst ek
        have : g9 = 0 ∨ g9 = 1 ∨ g9 = 2 := by omega
        rcases this with rfl | rfl | rfl
        · exact F0
        · exact F1
        · exact F2
      · have e9 := eP g9 k2 hg9 (by omega)
        exact ⟨(SS3.2.2 _ _ (by omega)).trans e9.1, (SS3.2.2 _ _ (by omega)).trans e9.2⟩
    · have e9 := eQ g9 k2 hg9 (by omega) hk2
      exact ⟨(SS3.2.2 _ _ (by omega)).trans e9.1, (SS3.2.2 _ _ (by omega)).trans e9.2⟩
set_option maxRecDepth 8000 in
theorem m_move {L : Nat} {h : Hp} {S : St} (I : InvM L h S) (ok : okS S) {i j9 : Int} (hi0 : inI i) (hj0 : inI j9) : RN 166 0 [some (.inr (.inr (some 1085))), some (.inl i), some (.inl j9), none, none] [] h 0 0 (fun v h2 => InvM L h2 (oMove S i j9) ∧ FxM h h2 ∧ v = some (.inl (aMove S i j9))) := by
  have hm : mrec 166 = some nM166 := rfl
  obtain ⟨g, hR, hV, hK, hG, hL, hB, hFl⟩ := id I
  have hok := ok.1
  obtain ⟨M0, M1, M2, M3, M4, Q0, Q1, Q2, S0, N0, N1⟩ := hR.use
  have n60 := hok.1
  have g1 := g
  have hR1 := hR
  have hH : 8 ≤ S.1.2.2.2 0 ∧ S.1.2.2.2 0 ≤ 60 := by have := hok.2.2.2.2; unfold okStl at this; omega
  refine r_aload_n hm rfl (k := ?_)
  refine r_iload_n hm rfl (k := ?_)
  refine r_callv (j2 := 165) hm rfl rfl rfl rfl rfl rfl (by first | assumption | exact (g1.1 _).trans rfl) (Nat.le_of_ble_eq_true rfl) (Nat.le_of_ble_eq_true rfl) rfl ⟨Nat.le_of_ble_eq_true rfl, Nat.le_of_ble_eq_true rfl, Nat.le_of_ble_eq_true rfl, Nat.le_of_ble_eq_true rfl, Nat.le_of_ble_eq_true rfl⟩ rfl (m_isItem g hR hi0) (fun v9 h9 p9 => ?_)
  obtain ⟨e1, e2⟩ := p9
  subst e2
  replace e1 := e1.symm
  subst e1
  obtain ⟨b9, eb9, hb9⟩ := ite01 (p := 0 ≤ i ∧ i < (S.1.1 : Int))
  rw [eb9]
  change RN 166 5 _ _ _ 0 0 _
  dsimp only [Option.toList, List.cons_append, List.nil_append]
  refine r_if_eq (t := 16) hm rfl rfl (fun c5 => ?_) (fun c5 => ?_)
  · refine r_sipush hm rfl (k := ?_)
    refine r_ireturn hm rfl rfl (by rfl) (Nat.le_of_ble_eq_true rfl) (Nat.le_of_ble_eq_true rfl) ?_
    unfold oMove aMove
    rw [if_neg (by omega), if_neg (by omega)]
    exact ⟨I, Sm.refl, rfl⟩
  · refine r_aload_n hm rfl (k := ?_)
    refine r_iload_n hm rfl (k := ?_)
    refine r_callv (j2 := 165) hm rfl rfl rfl rfl rfl rfl (by first | assumption | exact (g1.1 _).trans rfl) (Nat.le_of_ble_eq_true rfl) (Nat.le_of_ble_eq_true rfl) rfl ⟨Nat.le_of_ble_eq_true rfl, Nat.le_of_ble_eq_true rfl, Nat.le_of_ble_eq_true rfl, Nat.le_of_ble_eq_true rfl, Nat.le_of_ble_eq_true rfl⟩ rfl (m_isItem g hR hj0) (fun v9 h9 p9 => ?_)
    obtain ⟨e1, e2⟩ := p9
    subst e2
    replace e1 := e1.symm
    subst e1
    obtain ⟨b8, eb8, hb8⟩ := ite01 (p := 0 ≤ j9 ∧ j9 < (S.1.1 : Int))
    rw [eb8]
    change RN 166 13 _ _ _ 0 0 _
    dsimp only [Option.toList, List.cons_append, List.nil_append]
    refine r_if_ne (t := 20) hm rfl rfl (fun c13 => ?_) (fun c13 => ?_)
    · obtain ⟨q, rfl⟩ := Int.eq_ofNat_of_zero_le (show 0 ≤ i by omega)
      obtain ⟨q2, rfl⟩ := Int.eq_ofNat_of_zero_le (show 0 ≤ j9 by omega)
      refine r_iload_n hm rfl (k := ?_)
      refine r_istore_n hm rfl (k := ?_)
      suffices LP : ∀ (d at9 : Nat) (h1 : Hp) (z4 : Option Vl), (at9 + d = q2 ∨ q2 + d = at9) → ((q ≤ at9 ∧ at9 ≤ q2) ∨ (q2 ≤ at9 ∧ at9 ≤ q)) → Sm (fun a k => (1088 ≤ a ∧ a ≤ 1092 ∧ 180 ≤ k) ∨ (1093 ≤ a ∧ a ≤ 1095 ∧ 3600 ≤ k) ∨ (a = 1086 ∧ k = 3) ∨ (a = 1085 ∧ k = 11)) h h1 → h1.2.1 1086 3 = (S.1.1 : Int) → h1.2.1 1085 11 = (S.2.2.2.1 : Int) → (∀ m, m < S.1.1 → Rw h1 (180 + m) S.1 (shI q at9 m)) → RN 166 22 [some (.inr (.inr (some 1085))), some (.inl (q : Int)), some (.inl (q2 : Int)), some (.inl (at9 : Int)), z4] [] h1 0 0 (fun v h2 => InvM L h2 (oMove S (q : Int) (q2 : Int)) ∧ FxM h h2 ∧ v = some (.inl (aMove S (q : Int) (q2 : Int)))) from LP (q2 - q + (q - q2)) q _ _ (by omega) (by omega) Sm.refl N0 hG (fun m hm => by rw [show shI q q m = m by unfold shI; (repeat' split) <;> omega]; exact hR.rw3 hm)
      refine fun d => Nat.strongRecOn d (fun d ih => ?_)
      intro at9 h1 z4 hd hat S1 e3 e11 rA
      replace g1 := S1.gg g
      refine r_iload_n hm rfl (k := ?_)
      refine r_iload_n hm rfl (k := ?_)
      refine r_icmp_eq (t := 64) hm rfl rfl (fun c24 => ?_) (fun c24 => ?_)
      · refine r_iconst hm rfl (k := ?_)
        refine r_ireturn hm rfl rfl (by rfl) (Nat.le_of_ble_eq_true rfl) (Nat.le_of_ble_eq_true rfl) ?_
        have ea : at9 = q2 := by omega
        subst ea
        have oky := (oMove_ok (i := (q : Int)) (j := (at9 : Int)) ok).1
        unfold oMove at oky
        rw [if_pos (by omega), Int.toNat_natCast, Int.toNat_natCast] at oky
        unfold oMove aMove
        rw [if_pos (by omega), if_pos (by omega), Int.toNat_natCast, Int.toNat_natCast]
        refine ⟨?_, S1.mono (fun a9 k9 z => by omega), rfl⟩
        exact I.mut ok S1 (fun a k z => by omega) (rw3_rep (x := S.1) (fun i9 hi9 => by have := oky.2.1 i9 hi9; unfold okIt at this; exact this.2.2.2.2.2.2.2.2.2.1) n60 e3 (fun m hm => rA m hm) (fun k9 hk9 => (S1.2.2 _ _ (by omega)).trans (S0 k9 hk9))) e11
      · refine r_iload_n hm rfl (k := ?_)
        refine r_iload_n hm rfl (k := ?_)
        refine r_icmp_le (t := 38) hm rfl rfl (fun c29 => ?_) (fun c29 => ?_)
        · refine r_iload_n hm rfl (k := ?_)
          refine r_iconst hm rfl (k := ?_)
          refine r_isub hm rfl (hr := (by omega)) (k := ?_)
          refine r_istore hm rfl (k := ?_)
          have qS := m_swap g1 (x1 := 180 + at9) (y1 := 180 + (at9 - 1)) (by omega) (by omega) (by omega)
          rw [show (((180 + at9 : Nat)) : Int) = 180 + (at9 : Int) by omega, show (((180 + (at9 - 1) : Nat)) : Int) = 180 + ((at9 : Int) - 1) by omega] at qS
          refine r_aload_n hm rfl (k := ?_)
          refine r_sipush hm rfl (k := ?_)
          refine r_iload_n hm rfl (k := ?_)
          refine r_iadd hm rfl (hr := (by omega)) (k := ?_)
          refine r_sipush hm rfl (k := ?_)
          refine r_iload hm rfl (k := ?_)
          refine r_iadd hm rfl (hr := (by omega)) (k := ?_)
          refine r_callv (j2 := 167) hm rfl rfl rfl rfl rfl rfl (by first | assumption | exact (g1.1 _).trans rfl) (Nat.le_of_ble_eq_true rfl) (Nat.le_of_ble_eq_true rfl) rfl ⟨Nat.le_of_ble_eq_true rfl, Nat.le_of_ble_eq_true rfl, Nat.le_of_ble_eq_true rfl, Nat.le_of_ble_eq_true rfl, Nat.le_of_ble_eq_true rfl⟩ rfl (qS) (fun v9 hB p9 => ?_)
          obtain ⟨SB, sF, sP, e1⟩ := p9
          subst e1
          change RN 166 58 _ _ _ 0 0 _
          dsimp only [Option.toList, List.nil_append]
          refine r_iload hm rfl (k := ?_)
          refine r_istore_n hm rfl (k := ?_)
          refine r_goto (t := 22) hm rfl (k := ?_)
          have b9 := ih (d - 1) (by omega) (at9 - 1) hB (some (.inl ((at9 : Int) - 1))) (by omega) (by omega) (S1.trans (SB.mono (fun a k z => by unfold rgR at z; omega))) ((SB.2.2 _ _ (by unfold rgR; omega)).trans e3) ((SB.2.2 _ _ (by unfold rgR; omega)).trans e11) (fun m hm => by
            by_cases em : m = at9
            · subst em
              rw [show shI q (m - 1) m = shI q m (m - 1) by unfold shI; (repeat' split) <;> omega]
              exact (rA (m - 1) (by omega)).cp (fun f hf => (sF f hf).1) (fun g9 k hg9 hk => (sP g9 k hg9 hk).1)
            · by_cases en : m = (at9 - 1)
              · subst en
                rw [show shI q (at9 - 1) (at9 - 1) = shI q at9 at9 by unfold shI; (repeat' split) <;> omega]
                exact (rA at9 (by omega)).cp (fun f hf => (sF f hf).2) (fun g9 k hg9 hk => (sP g9 k hg9 hk).2)
              · rw [show shI q (at9 - 1) m = shI q at9 m by unfold shI; (repeat' split) <;> omega]
                exact (rA m hm).same SB (fun a k9 z z2 => by unfold rgR at z z2; omega))
          rw [show (((at9 - 1 : Nat)) : Int) = (at9 : Int) - 1 by omega] at b9
          exact b9
        · refine r_iload_n hm rfl (k := ?_)
          refine r_iconst hm rfl (k := ?_)
          refine r_iadd hm rfl (hr := (by omega)) (k := ?_)
          refine r_goto (t := 41) hm rfl (k := ?_)
          refine r_istore hm rfl (k := ?_)
          have qS := m_swap g1 (x1 := 180 + at9) (y1 := 180 + (at9 + 1)) (by omega) (by omega) (by omega)
          rw [show (((180 + at9 : Nat)) : Int) = 180 + (at9 : Int) by omega, show (((180 + (at9 + 1) : Nat)) : Int) = 180 + ((at9 : Int) + 1) by omega] at qS
          refine r_aload_n hm rfl (k := ?_)
          refine r_sipush hm rfl (k := ?_)
          refine r_iload_n hm rfl (k := ?_)
          refine r_iadd hm rfl (hr := (by omega)) (k := ?_)
          refine r_sipush hm rfl (k := ?_)
          refine r_iload hm rfl (k := ?_)
          refine r_iadd hm rfl (hr := (by omega)) (k := ?_)
          refine r_callv (j2 := 167) hm rfl rfl rfl rfl rfl rfl (by first | assumption | exact (g1.1 _).trans rfl) (Nat.le_of_ble_eq_true rfl) (Nat.le_of_ble_eq_true rfl) rfl ⟨Nat.le_of_ble_eq_true rfl, Nat.le_of_ble_eq_true rfl, Nat.le_of_ble_eq_true rfl, Nat.le_of_ble_eq_true rfl, Nat.le_of_ble_eq_true rfl⟩ rfl (qS) (fun v9 hB p9 => ?_)
          obtain ⟨SB, sF, sP, e1⟩ := p9
          subst e1
          change RN 166 58 _ _ _ 0 0 _
          dsimp only [Option.toList, List.nil_append]
          refine r_iload hm rfl (k := ?_)
          refine r_istore_n hm rfl (k := ?_)
          refine r_goto (t := 22) hm rfl (k := ?_)
          have b9 := ih (d - 1) (by omega) (at9 + 1) hB (some (.inl ((at9 : Int) + 1))) (by omega) (by omega) (S1.trans (SB.mono (fun a k z => by unfold rgR at z; omega))) ((SB.2.2 _ _ (by unfold rgR; omega)).trans e3) ((SB.2.2 _ _ (by unfold rgR; omega)).trans e11) (fun m hm => by
            by_cases em : m = at9
            · subst em
              rw [show shI q (m + 1) m = shI q m (m + 1) by unfold shI; (repeat' split) <;> omega]
              exact (rA (m + 1) (by omega)).cp (fun f hf => (sF f hf).1) (fun g9 k hg9 hk => (sP g9 k hg9 hk).1)
            · by_cases en : m = (at9 + 1)
              · subst en
                rw [show shI q (at9 + 1) (at9 + 1) = shI q at9 at9 by unfold shI; (repeat' split) <;> omega]
                exact (rA at9 (by omega)).cp (fun f hf => (sF f hf).2) (fun g9 k hg9 hk => (sP g9 k hg9 hk).2)
              · rw [show shI q (at9 + 1) m = shI q at9 m by unfold shI; (repeat' split) <;> omega]
                exact (rA m hm).same SB (fun a k9 z z2 => by unfold rgR at z z2; omega))
          exact b9
    · refine r_sipush hm rfl (k := ?_)
      refine r_ireturn hm rfl rfl (by rfl) (Nat.le_of_ble_eq_true rfl) (Nat.le_of_ble_eq_true rfl) ?_
      unfold oMove aMove
      rw [if_neg (by omega), if_neg (by omega)]
      exact ⟨I, Sm.refl, rfl⟩
