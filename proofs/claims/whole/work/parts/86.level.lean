/-! the style read: the reference, page and level -/
theorem m_oneX {L : Nat} {h : Hp} {b : Nat → Int} {n : Nat} (Q : MQr L h b n) {p : Nat} (hp : h.2.1 1085 51 = (p : Int)) (hpn : p ≤ n) {a1 a2 a3 : Int} {x1 x2 x3 : Int64} (h1 : Int64.ofInt a1 = x1) (h2 : Int64.ofInt a2 = x2) (h3 : Int64.ofInt a3 = x3) (r1 : -1 ≤ a1 ∧ a1 ≤ 3000000000000) (r2 : -1 ≤ a2 ∧ a2 ≤ 3000000000000) (r3 : -1 ≤ a3 ∧ a3 ≤ 3000000000000) : RN 237 0 [some (.inr (.inr (some (1085)))), some (.inr (.inl (x1))), none, some (.inr (.inl (x2))), none, some (.inr (.inl (x3))), none, none] [] h 0 0 (fun v h2 => SmL (fun a k => a = 1085 ∧ (k = 51 ∨ k = 54)) h h2 ∧ h2.2.1 1085 51 = (if oneK (wC b n (sk b n p)) a1 a2 a3 < 0 then ((sk b n p : Nat) : Int) else ((wE b n (sk b n p) : Nat) : Int)) ∧ v = some (.inl (oneK (wC b n (sk b n p)) a1 a2 a3))) := by
  subst h1 h2 h3
  exact m_oneOf Q hp hpn r1 r2 r3
set_option maxHeartbeats 4000000 in
set_option maxRecDepth 8000 in
theorem m_readPage {L : Nat} {h : Hp} {b : Nat → Int} {n : Nat} (Q : MQr L h b n) {p : Nat} (hp : h.2.1 1085 51 = (p : Int)) (hpn : p ≤ n) {s : Rd} (ok : okR b n s) (hs : sk b n p = s.1) (f0 : s.2.1 = 0) (hf : h.2.1 1085 50 = s.2.2.1) (hd : ∀ k, k < 13 → h.2.1 1126 k = s.2.2.2.1 k) : RN 235 0 [some (.inr (.inr (some (1085)))), none] [] h 0 0 (fun v h2 => SmL (fun a k => (a = 1085 ∧ (k = 50 ∨ k = 51 ∨ k = 54 ∨ k = 55)) ∨ a = 1126) h h2 ∧ ∃ x, v = some (.inl x) ∧ RsM b n h2 x (tnD b n (twd b n (tnD b n s 8 60 0) 1) 10 90 1)) := by
  have hm : mrec 235 = some nM235 := rfl
  obtain ⟨g1, ql, qn, qb, qr⟩ := id Q
  have c9 : ∀ i, i < 12 → -1 ≤ cdW i ∧ cdW i ≤ 3000000000000 := fun i hi => by have := (wd_let hi).2; omega
  refine r_aload_n hm rfl (k := ?_)
  refine r_bipush hm rfl (k := ?_)
  refine r_bipush hm rfl (k := ?_)
  refine r_callv (j2 := 236) hm rfl rfl rfl rfl rfl rfl (by first | assumption | exact (g1.1 _).trans rfl) (Nat.le_of_ble_eq_true rfl) (Nat.le_of_ble_eq_true rfl) rfl ⟨Nat.le_of_ble_eq_true rfl, Nat.le_of_ble_eq_true rfl, Nat.le_of_ble_eq_true rfl, Nat.le_of_ble_eq_true rfl, Nat.le_of_ble_eq_true rfl⟩ rfl (m_readNumber Q hp hpn (lo := 8) (hi := 60) (by omega)) (fun v9 hA p9 => ?_)
  obtain ⟨SA, x9, e1, hx⟩ := p9
  subst e1
  rw [hs] at hx
  have Q1 := Q.fr SA (fun a k z => by omega)
  obtain ⟨g1, ql, qn, qb, qr⟩ := id Q1
  obtain ⟨te1, te2, te3⟩ := tez_rng (b := b) ok.1
  change RN 235 8 _ _ _ 0 0 _
  dsimp only [Option.toList, List.cons_append, List.nil_append]
  refine r_istore_n hm rfl (k := ?_)
  refine r_aload_n hm rfl (k := ?_)
  refine r_getR (hm := hm) (hf := rfl) (hd := rfl) (hs := (by first | assumption | exact (g1.1 _).trans rfl)) (hv := (by first | exact putI_eq | exact (putI_ne (by omega)).trans (by first | exact putI_eq | exact (putI_ne (by omega)).trans (by first | first | assumption | exact g1.2 _ _ _ rfl | exact qb _ (by omega) | exact rfl) | first | assumption | exact g1.2 _ _ _ rfl | exact qb _ (by omega) | exact rfl) | first | assumption | exact g1.2 _ _ _ rfl | exact qb _ (by omega) | exact rfl)) (k := ?_)
  refine r_iconst hm rfl (k := ?_)
  refine r_aload_n hm rfl (k := ?_)
  refine r_getI (hm := hm) (hf := rfl) (hd := rfl) (hs := (by first | assumption | exact (g1.1 _).trans rfl)) (hv := (by first | exact putI_eq | exact (putI_ne (by omega)).trans (by first | exact putI_eq | exact (putI_ne (by omega)).trans (by first | first | assumption | exact g1.2 _ _ _ rfl | exact qb _ (by omega) | exact rfl) | first | assumption | exact g1.2 _ _ _ rfl | exact qb _ (by omega) | exact rfl) | first | assumption | exact g1.2 _ _ _ rfl | exact qb _ (by omega) | exact rfl)) (k := ?_)
  refine r_iast (hm := hm) (hf := rfl) (h28 := (by omega)) (hs := (by first | assumption | exact (g1.1 _).trans rfl)) (kk := 0) (hi := by omega) (hn := (by omega)) (k := ?_)
  have S2 : SmL (fun a k => (a = 1085 ∧ (k = 50 ∨ k = 51 ∨ k = 54 ∨ k = 55)) ∨ a = 1126) h (putI hA 1126 0 (hA.2.1 1085 55)) := SmL.put (SA.mono (fun a k z => by omega)) (by omega)
  have Q2 := Q.fr S2 (fun a k z => by omega)
  obtain ⟨g1, ql, qn, qb, qr⟩ := id Q2
  refine r_iload_n hm rfl (k := ?_)
  refine r_if_ne (t := 56) hm rfl rfl (fun c20 => ?_) (fun c20 => ?_)
  · refine r_iload_n hm rfl (k := ?_)
    refine r_if_le (t := 64) hm rfl rfl (fun c57 => ?_) (fun c57 => ?_)
    · exfalso; omega
    · refine r_iload_n hm rfl (k := ?_)
      refine r_goto (t := 72) hm rfl (k := ?_)
      refine r_istore_n hm rfl (k := ?_)
      refine r_aload_n hm rfl (k := ?_)
      refine r_getR (hm := hm) (hf := rfl) (hd := rfl) (hs := (by first | assumption | exact (g1.1 _).trans rfl)) (hv := (by first | exact putI_eq | exact (putI_ne (by omega)).trans (by first | exact putI_eq | exact (putI_ne (by omega)).trans (by first | first | assumption | exact g1.2 _ _ _ rfl | exact qb _ (by omega) | exact rfl) | first | assumption | exact g1.2 _ _ _ rfl | exact qb _ (by omega) | exact rfl) | first | assumption | exact g1.2 _ _ _ rfl | exact qb _ (by omega) | exact rfl)) (k := ?_)
      refine r_iconst hm rfl (k := ?_)
      refine r_aload_n hm rfl (k := ?_)
      refine r_getI (hm := hm) (hf := rfl) (hd := rfl) (hs := (by first | assumption | exact (g1.1 _).trans rfl)) (hv := (by first | exact putI_eq | exact (putI_ne (by omega)).trans (by first | exact putI_eq | exact (putI_ne (by omega)).trans (by first | first | assumption | exact g1.2 _ _ _ rfl | exact qb _ (by omega) | exact rfl) | first | assumption | exact g1.2 _ _ _ rfl | exact qb _ (by omega) | exact rfl) | first | assumption | exact g1.2 _ _ _ rfl | exact qb _ (by omega) | exact rfl)) (k := ?_)
      refine r_iast (hm := hm) (hf := rfl) (h28 := (by omega)) (hs := (by first | assumption | exact (g1.1 _).trans rfl)) (kk := 1) (hi := by omega) (hn := (by omega)) (k := ?_)
      refine r_iload_n hm rfl (k := ?_)
      refine r_ireturn hm rfl rfl (by rfl) (Nat.le_of_ble_eq_true rfl) (Nat.le_of_ble_eq_true rfl) ?_
      refine ⟨SmL.put S2 (by omega), x9, rfl, ?_⟩
      have hz : ((tnD b n s 8 60 0)).2.1 = x9 ∧ ((tnD b n s 8 60 0)).2.2.1 = (s.1 : Int) := by
        rcases hx with ⟨z1, z2, z3, z4⟩ | ⟨z1, z2, z3, z4, z5⟩ | ⟨z1, z2, z3, z4⟩
        · have := tnm_a (lo := 8) (hi := 60) f0 z1
          exact ⟨this.1.trans z2.symm, this.2⟩
        · have := tnm_b f0 z1 z2
          exact ⟨this.1.trans z3.symm, this.2⟩
        · exfalso; omega
      have g0 : ((tnD b n s 8 60 0)).2.1 ≠ 0 := by rw [hz.1]; exact c20
      obtain ⟨u1, u2⟩ := fz_twd (b := b) (n := n) (i := 1) g0
      obtain ⟨v1, v2⟩ := fz_tnD (b := b) (n := n) (s := twd b n (tnD b n s 8 60 0) 1) (lo := 10) (hi := 90) (k := 1) (by rw [u1]; exact g0)
      refine ⟨?_, ?_, fun z => absurd z c20⟩
      · rw [v1, u1, hz.1]
      · rw [putI_ne (by omega), putI_ne (by omega), v2, u2, hz.2]; omega
  · have hx0 : tkz b n s.1 = 2 ∧ ¬ (vl b n s.1 < 8 ∨ 60 < vl b n s.1) ∧ hA.2.1 1085 51 = ((tez b n s.1 : Nat) : Int) ∧ hA.2.1 1085 50 = h.2.1 1085 50 ∧ hA.2.1 1085 55 = vl b n s.1 := by omega
    obtain ⟨x1, x2, x3, x4, x5⟩ := hx0
    have eT : tnm b n s 8 60 = (adv b n s, vl b n s.1) := tnm_c x1 x2
    have eD : tnD b n s 8 60 0 = stD (adv b n s) 0 (vl b n s.1) := by unfold tnD; rw [eT]
    have hp2 : (putI hA 1126 0 (hA.2.1 1085 55)).2.1 1085 51 = ((tez b n s.1 : Nat) : Int) := by rw [putI_ne (by omega)]; exact x3
    have nP : sk b n (tez b n s.1) = nxz b n s.1 := rfl
    have nR := nxz_rng (b := b) ok.1
    refine r_aload_n hm rfl (k := ?_)
    refine r_lconst hm rfl (k := ?_)
    refine r_bipush hm rfl (k := ?_)
    refine r_bipush hm rfl (k := ?_)
    refine r_iconst hm rfl (k := ?_)
    refine r_iconst hm rfl (k := ?_)
    refine r_calls (j2 := 232) hm rfl rfl rfl rfl rfl rfl (Nat.le_of_ble_eq_true rfl) (Nat.le_of_ble_eq_true rfl) rfl ⟨Nat.le_of_ble_eq_true rfl, Nat.le_of_ble_eq_true rfl, Nat.le_of_ble_eq_true rfl, Nat.le_of_ble_eq_true rfl, Nat.le_of_ble_eq_true rfl⟩ rfl (m_codeX (x := Int64.ofInt (cdW 1)) (by decide +kernel)) (fun v9 h9 p9 => ?_)
    obtain ⟨e1, e2⟩ := p9
    subst e2
    replace e1 := e1.symm
    subst e1
    change RN 235 34 _ _ _ 0 0 _
    dsimp only [Option.toList, List.cons_append, List.nil_append]
    refine r_ldc2 hm rfl (hd := rfl) (k := ?_)
    refine r_ldc2 hm rfl (hd := rfl) (k := ?_)
    refine r_callv (j2 := 237) hm rfl rfl rfl rfl rfl rfl (by first | assumption | exact (g1.1 _).trans rfl) (Nat.le_of_ble_eq_true rfl) (Nat.le_of_ble_eq_true rfl) rfl ⟨Nat.le_of_ble_eq_true rfl, Nat.le_of_ble_eq_true rfl, Nat.le_of_ble_eq_true rfl, Nat.le_of_ble_eq_true rfl, Nat.le_of_ble_eq_true rfl⟩ rfl (m_oneX Q2 hp2 te2 (a1 := cdW 1) (a2 := -1) (a3 := -1) rfl (by decide +kernel) (by decide +kernel) (c9 1 (by omega)) (by omega) (by omega)) (fun v9 hB_ p9 => ?_)
    obtain ⟨SB, e51, e1⟩ := p9
    subst e1
    rw [nP] at e51
    rw [nP]
    have wr := wC_rng (b := b) nR.2.1
    rw [oneK1 wr.1 (wd_let (i := 1) (by omega)).2.1] at e51
    rw [oneK1 wr.1 (wd_let (i := 1) (by omega)).2.1]
    have S3 := S2.trans (SB.mono (T := (fun a k => (a = 1085 ∧ (k = 50 ∨ k = 51 ∨ k = 54 ∨ k = 55)) ∨ a = 1126)) (fun a k z => by omega))
    have Q3 := Q.fr S3 (fun a k z => by omega)
    obtain ⟨g1, ql, qn, qb, qr⟩ := id Q3
    have b50 : hB_.2.1 1085 50 = h.2.1 1085 50 := by rw [SB.2.2 _ _ (by omega), putI_ne (by omega)]; exact x4
    have bFr : ∀ k, k < 13 → hB_.2.1 1126 k = (tnD b n s 8 60 0).2.2.2.1 k := fun k hk => by
      rw [SB.2.2 _ _ (by omega), eD]
      show _ = upf s.2.2.2.1 0 (vl b n s.1) k
      by_cases e : k = 0
      · rw [e, putI_eq, upf_eq]; exact x5
      · rw [putI_ne (by omega), upf_ne e, SA.2.2 _ _ (by omega)]; exact hd k hk
    obtain ⟨y9, ey9⟩ : ∃ y9, (if wC b n (nxz b n s.1) = cdW 1 then (0 : Int) else -1) = y9 := ⟨_, rfl⟩
    rw [ey9] at e51
    rw [ey9]
    have wi := wC_is (b := b) (i := 1) nR.2.1 (by omega)
    change RN 235 43 _ _ _ 0 0 _
    dsimp only [Option.toList, List.cons_append, List.nil_append]
    refine r_if_ge (t := 56) hm rfl rfl (fun c43 => ?_) (fun c43 => ?_)
    · refine r_iload_n hm rfl (k := ?_)
      refine r_if_le (t := 64) hm rfl rfl (fun c57 => ?_) (fun c57 => ?_)
      · have hw : wC b n (nxz b n s.1) = cdW 1 := by
          apply Decidable.byContradiction
          intro z
          rw [if_neg z] at ey9
          omega
        have hT := wi.mp hw
        rw [if_neg (by omega), (wE_tk nR.2.1).1 (isW_tk hT)] at e51
        obtain ⟨te4, te5, te6⟩ := tez_rng (b := b) nR.2.1
        have eW : twd b n (tnD b n s 8 60 0) 1 = adv b n (stD (adv b n s) 0 (vl b n s.1)) := by
          rw [eD]
          unfold twd
          exact if_pos hT
        have nP2 : sk b n (tez b n (nxz b n s.1)) = (twd b n (tnD b n s 8 60 0) 1).1 := by rw [eW]; rfl
        have f02 : (twd b n (tnD b n s 8 60 0) 1).2.1 = 0 := by rw [eW]; exact f0
        refine r_aload_n hm rfl (k := ?_)
        refine r_bipush hm rfl (k := ?_)
        refine r_bipush hm rfl (k := ?_)
        refine r_callv (j2 := 236) hm rfl rfl rfl rfl rfl rfl (by first | assumption | exact (g1.1 _).trans rfl) (Nat.le_of_ble_eq_true rfl) (Nat.le_of_ble_eq_true rfl) rfl ⟨Nat.le_of_ble_eq_true rfl, Nat.le_of_ble_eq_true rfl, Nat.le_of_ble_eq_true rfl, Nat.le_of_ble_eq_true rfl, Nat.le_of_ble_eq_true rfl⟩ rfl (m_readNumber Q3 e51 te5 (lo := 10) (hi := 90) (by omega)) (fun v9 hC p9 => ?_)
        obtain ⟨SC, x8, e1, hx8⟩ := p9
        subst e1
        rw [nP2] at hx8
        have S4 := S3.trans (SC.mono (T := (fun a k => (a = 1085 ∧ (k = 50 ∨ k = 51 ∨ k = 54 ∨ k = 55)) ∨ a = 1126)) (fun a k z => by omega))
        have Q4 := Q.fr S4 (fun a k z => by omega)
        obtain ⟨g1, ql, qn, qb, qr⟩ := id Q4
        change RN 235 72 _ _ _ 0 0 _
        dsimp only [Option.toList, List.cons_append, List.nil_append]
        refine r_istore_n hm rfl (k := ?_)
        refine r_aload_n hm rfl (k := ?_)
        refine r_getR (hm := hm) (hf := rfl) (hd := rfl) (hs := (by first | assumption | exact (g1.1 _).trans rfl)) (hv := (by first | exact putI_eq | exact (putI_ne (by omega)).trans (by first | exact putI_eq | exact (putI_ne (by omega)).trans (by first | first | assumption | exact g1.2 _ _ _ rfl | exact qb _ (by omega) | exact rfl) | first | assumption | exact g1.2 _ _ _ rfl | exact qb _ (by omega) | exact rfl) | first | assumption | exact g1.2 _ _ _ rfl | exact qb _ (by omega) | exact rfl)) (k := ?_)
        refine r_iconst hm rfl (k := ?_)
        refine r_aload_n hm rfl (k := ?_)
        refine r_getI (hm := hm) (hf := rfl) (hd := rfl) (hs := (by first | assumption | exact (g1.1 _).trans rfl)) (hv := (by first | exact putI_eq | exact (putI_ne (by omega)).trans (by first | exact putI_eq | exact (putI_ne (by omega)).trans (by first | first | assumption | exact g1.2 _ _ _ rfl | exact qb _ (by omega) | exact rfl) | first | assumption | exact g1.2 _ _ _ rfl | exact qb _ (by omega) | exact rfl) | first | assumption | exact g1.2 _ _ _ rfl | exact qb _ (by omega) | exact rfl)) (k := ?_)
        refine r_iast (hm := hm) (hf := rfl) (h28 := (by omega)) (hs := (by first | assumption | exact (g1.1 _).trans rfl)) (kk := 1) (hi := by omega) (hn := (by omega)) (k := ?_)
        refine r_iload_n hm rfl (k := ?_)
        refine r_ireturn hm rfl rfl (by rfl) (Nat.le_of_ble_eq_true rfl) (Nat.le_of_ble_eq_true rfl) ?_
        refine ⟨SmL.put S4 (by omega), x8, rfl, ?_⟩
        rcases hx8 with ⟨z1, z2, z3, z4⟩ | ⟨z1, z2, z3, z4, z5⟩ | ⟨z1, z2, z3, z4, z5, z6⟩
        · obtain ⟨v1, v2⟩ := tnm_a (lo := 10) (hi := 90) f02 z1
          refine ⟨z2.trans v1.symm, ?_, fun z => by omega⟩
          rw [putI_ne (by omega), z4]; exact v2.symm
        · obtain ⟨v1, v2⟩ := tnm_b f02 z1 z2
          refine ⟨z3.trans v1.symm, ?_, fun z => by omega⟩
          rw [putI_ne (by omega), z5]; exact v2.symm
        · have eT2 := tnm_c z1 z2
          obtain ⟨s2, es2⟩ : ∃ s2, twd b n (tnD b n s 8 60 0) 1 = s2 := ⟨_, rfl⟩
          rw [es2] at z1 z2 z4 z6 eT2 f02 nP2
          rw [es2]
          have hpo : s2.1 ≤ n := by rw [← nP2]; exact (sk_rng te5).2.1
          have eX : tnD b n s2 10 90 1 = stD (adv b n s2) 1 (vl b n s2.1) := by unfold tnD; rw [eT2]
          rw [eX]
          refine ⟨z3.trans f02.symm, ?_, fun _ => ⟨tez b n s2.1, ?_, (tez_rng hpo).2.1, rfl, fun k hk => ?_⟩⟩
          · rw [putI_ne (by omega), z5, b50, hf]
            have e7 : s2.2.2.1 = s.2.2.1 := by rw [← es2, eW]; rfl
            exact e7.symm
          · rw [putI_ne (by omega)]; exact z4
          · show _ = upf s2.2.2.2.1 1 (vl b n s2.1) k
            by_cases e : k = 1
            · rw [e, putI_eq, upf_eq]; exact z6
            · rw [putI_ne (by omega), upf_ne e, SC.2.2 _ _ (by omega), bFr k hk]
              have e7 : s2.2.2.2.1 = ((tnD b n s 8 60 0)).2.2.2.1 := by rw [← es2, eW, eD]; rfl
              rw [e7]
      · exfalso; omega
    · have hw : ¬ wC b n (nxz b n s.1) = cdW 1 := fun z => by rw [if_pos z] at ey9; omega
      have hF : isW b n (nxz b n s.1) 1 = false := by
        cases hh : isW b n (nxz b n s.1) 1
        · rfl
        · exact absurd (wi.mpr hh) hw
      rw [if_pos (by omega)] at e51
      refine r_aload_n hm rfl (k := ?_)
      refine r_iconst hm rfl (k := ?_)
      refine r_aload_n hm rfl (k := ?_)
      refine r_getI (hm := hm) (hf := rfl) (hd := rfl) (hs := (by first | assumption | exact (g1.1 _).trans rfl)) (hv := (by first | exact putI_eq | exact (putI_ne (by omega)).trans (by first | exact putI_eq | exact (putI_ne (by omega)).trans (by first | first | assumption | exact g1.2 _ _ _ rfl | exact qb _ (by omega) | exact rfl) | first | assumption | exact g1.2 _ _ _ rfl | exact qb _ (by omega) | exact rfl) | first | assumption | exact g1.2 _ _ _ rfl | exact qb _ (by omega) | exact rfl)) (k := ?_)
      refine r_callv (j2 := 234) hm rfl rfl rfl rfl rfl rfl (by first | assumption | exact (g1.1 _).trans rfl) (Nat.le_of_ble_eq_true rfl) (Nat.le_of_ble_eq_true rfl) rfl ⟨Nat.le_of_ble_eq_true rfl, Nat.le_of_ble_eq_true rfl, Nat.le_of_ble_eq_true rfl, Nat.le_of_ble_eq_true rfl, Nat.le_of_ble_eq_true rfl⟩ rfl (m_fails Q3) (fun v9 h9 p9 => ?_)
      obtain ⟨e1, e2⟩ := p9
      subst e2
      subst e1
      change RN 235 55 _ _ _ 0 0 _
      dsimp only [Option.toList, List.cons_append, List.nil_append]
      refine r_ireturn hm rfl rfl (by rfl) (Nat.le_of_ble_eq_true rfl) (Nat.le_of_ble_eq_true rfl) ?_
      refine ⟨SmL.put S3 (by omega), 1, rfl, ?_⟩
      have eW : twd b n (tnD b n s 8 60 0) 1 = nt (tnD b n s 8 60 0) 1 := by
        rw [eD]
        unfold twd
        exact if_neg (by show ¬ isW b n (nxz b n s.1) 1 = true; rw [hF]; decide)
      have f01 : ((tnD b n s 8 60 0)).2.1 = 0 := by rw [eD]; exact f0
      have eP1 : ((tnD b n s 8 60 0)).1 = nxz b n s.1 := by rw [eD]; rfl
      have eW2 : (twd b n (tnD b n s 8 60 0) 1).2.1 = 1 ∧ (twd b n (tnD b n s 8 60 0) 1).2.2.1 = (nxz b n s.1 : Int) := by rw [eW, nt_0 f01, eP1]; exact ⟨rfl, rfl⟩
      obtain ⟨v1, v2⟩ := fz_tnD (b := b) (n := n) (s := twd b n (tnD b n s 8 60 0) 1) (lo := 10) (hi := 90) (k := 1) (by rw [eW2.1]; decide)
      refine ⟨?_, ?_, fun z => absurd z (by decide)⟩
      · rw [v1, eW2.1]
      · rw [v2, eW2.2]; rw [putI_eq]
set_option maxHeartbeats 4000000 in
set_option maxRecDepth 8000 in
theorem m_readLevel {L : Nat} {h : Hp} {b : Nat → Int} {n : Nat} (Q : MQr L h b n) {p : Nat} (hp : h.2.1 1085 51 = (p : Int)) (hpn : p ≤ n) {s : Rd} (ok : okR b n s) (hs : sk b n p = s.1) (f0 : s.2.1 = 0) (hf : h.2.1 1085 50 = s.2.2.1) (hd : ∀ k, k < 13 → h.2.1 1126 k = s.2.2.2.1 k) (hpr : 1 ≤ s.1 ∧ b (s.1 - 1) ≠ 48) : RN 238 0 [some (.inr (.inr (some (1085)))), some (.inl (sn s.2.2.2.2.1 s.2.2.2.2.2)), none, none, none] [] h 0 0 (fun v h2 => SmL (fun a k => (a = 1085 ∧ (k = 50 ∨ k = 51 ∨ k = 54 ∨ k = 55)) ∨ a = 1126) h h2 ∧ ∃ x, v = some (.inl x) ∧ RsM b n h2 x (psl b n s) ∧ (x = 0 → ∃ u : Nat, h2.2.1 1085 55 = (u : Int) ∧ 1 ≤ u ∧ u ≤ 4 ∧ ((psl b n s)).2.2.2.2.1 = s.2.2.2.2.1 ∧ ((psl b n s)).2.2.2.2.2 = upf s.2.2.2.2.2 u 1)) := by
  have hm : mrec 238 = some nM238 := rfl
  obtain ⟨g1, ql, qn, qb, qr⟩ := id Q
  have c9 : ∀ i, i < 12 → -1 ≤ cdW i ∧ cdW i ≤ 3000000000000 := fun i hi => by have := (wd_let hi).2; omega
  refine r_aload_n hm rfl (k := ?_)
  refine r_iconst hm rfl (k := ?_)
  refine r_iconst hm rfl (k := ?_)
  refine r_callv (j2 := 236) hm rfl rfl rfl rfl rfl rfl (by first | assumption | exact (g1.1 _).trans rfl) (Nat.le_of_ble_eq_true rfl) (Nat.le_of_ble_eq_true rfl) rfl ⟨Nat.le_of_ble_eq_true rfl, Nat.le_of_ble_eq_true rfl, Nat.le_of_ble_eq_true rfl, Nat.le_of_ble_eq_true rfl, Nat.le_of_ble_eq_true rfl⟩ rfl (m_readNumber Q hp hpn (lo := 1) (hi := 4) (by omega)) (fun v9 hA p9 => ?_)
  obtain ⟨SA, x9, e1, hx⟩ := p9
  subst e1
  rw [hs] at hx
  have Q1 := Q.fr SA (fun a k z => by omega)
  obtain ⟨g1, ql, qn, qb, qr⟩ := id Q1
  obtain ⟨te1, te2, te3⟩ := tez_rng (b := b) ok.1
  change RN 238 6 _ _ _ 0 0 _
  dsimp only [Option.toList, List.cons_append, List.nil_append]
  refine r_istore_n hm rfl (k := ?_)
  refine r_iload_n hm rfl (k := ?_)
  refine r_if_le (t := 13) hm rfl rfl (fun c8 => ?_) (fun c8 => ?_)
  · have hx0 : tkz b n s.1 = 2 ∧ ¬ (vl b n s.1 < 1 ∨ 4 < vl b n s.1) ∧ hA.2.1 1085 51 = ((tez b n s.1 : Nat) : Int) ∧ hA.2.1 1085 50 = h.2.1 1085 50 ∧ hA.2.1 1085 55 = vl b n s.1 := by omega
    obtain ⟨x1, x2, x3, x4, x5⟩ := hx0
    have eT : tnm b n s 1 4 = (adv b n s, vl b n s.1) := tnm_c x1 x2
    obtain ⟨u, hu⟩ := Int.eq_ofNat_of_zero_le (show 0 ≤ vl b n s.1 by omega)
    rw [hu] at x2 x5 eT
    have nP : sk b n (tez b n s.1) = nxz b n s.1 := rfl
    have nR := nxz_rng (b := b) ok.1
    have S2 : SmL (fun a k => (a = 1085 ∧ (k = 50 ∨ k = 51 ∨ k = 54 ∨ k = 55)) ∨ a = 1126) h hA := SA.mono (fun a k z => by omega)
    have hu4 : 1 ≤ u ∧ u ≤ 4 := by omega
    obtain ⟨sb9, so9⟩ := sn_lv ok.2.2.2.2.2.1 ok.2.2.2.2.2.2 hu4
    have l01 := ok.2.2.2.2.2.2 u
    have hPl : s.1 < n := by
      apply Decidable.byContradiction
      intro z
      unfold tkz at x1
      rw [if_neg z] at x1
      omega
    have te4 := te3 hPl
    refine r_aload_n hm rfl (k := ?_)
    refine r_getI (hm := hm) (hf := rfl) (hd := rfl) (hs := (by first | assumption | exact (g1.1 _).trans rfl)) (hv := (by first | exact putI_eq | exact (putI_ne (by omega)).trans (by first | exact putI_eq | exact (putI_ne (by omega)).trans (by first | first | assumption | exact g1.2 _ _ _ rfl | exact qb _ (by omega) | exact x5 | exact x3 | exact qb9) | first | assumption | exact g1.2 _ _ _ rfl | exact qb _ (by omega) | exact x5 | exact x3 | exact qb9) | first | assumption | exact g1.2 _ _ _ rfl | exact qb _ (by omega) | exact x5 | exact x3 | exact qb9)) (k := ?_)
    refine r_istore_n hm rfl (k := ?_)
    refine r_iload_n hm rfl (k := ?_)
    refine r_bipush hm rfl (k := ?_)
    refine r_iload_n hm rfl (k := ?_)
    refine r_iadd hm rfl (hr := (by omega)) (k := ?_)
    refine r_ishr hm rfl (k := ?_)
    refine r_iconst hm rfl (k := ?_)
    refine r_iand hm rfl (k := ?_)
    show RN 238 26 _ (.inl (sBt (sn s.2.2.2.2.1 s.2.2.2.2.2) (8 + (u : Int))) :: _) _ _ _ _
    rw [sb9]
    refine r_iconst hm rfl (k := ?_)
    refine r_icmp_ne (t := 64) hm rfl rfl (fun c27 => ?_) (fun c27 => ?_)
    · refine r_aload_n hm rfl (k := ?_)
      refine r_calls (j2 := 233) hm rfl rfl rfl rfl rfl rfl (Nat.le_of_ble_eq_true rfl) (Nat.le_of_ble_eq_true rfl) rfl ⟨Nat.le_of_ble_eq_true rfl, Nat.le_of_ble_eq_true rfl, Nat.le_of_ble_eq_true rfl, Nat.le_of_ble_eq_true rfl, Nat.le_of_ble_eq_true rfl⟩ rfl (m_figuresWord) (fun v9 h9 p9 => ?_)
      obtain ⟨e1, e2⟩ := p9
      subst e2
      replace e1 := e1.symm
      subst e1
      change RN 238 68 _ _ _ 0 0 _
      dsimp only [Option.toList, List.cons_append, List.nil_append]
      refine r_lconst hm rfl (k := ?_)
      refine r_bipush hm rfl (k := ?_)
      refine r_bipush hm rfl (k := ?_)
      refine r_bipush hm rfl (k := ?_)
      refine r_bipush hm rfl (k := ?_)
      refine r_calls (j2 := 232) hm rfl rfl rfl rfl rfl rfl (Nat.le_of_ble_eq_true rfl) (Nat.le_of_ble_eq_true rfl) rfl ⟨Nat.le_of_ble_eq_true rfl, Nat.le_of_ble_eq_true rfl, Nat.le_of_ble_eq_true rfl, Nat.le_of_ble_eq_true rfl, Nat.le_of_ble_eq_true rfl⟩ rfl (m_codeX rfl) (fun v9 h9 p9 => ?_)
      obtain ⟨e1, e2⟩ := p9
      subst e2
      replace e1 := e1.symm
      subst e1
      change RN 238 80 _ _ _ 0 0 _
      dsimp only [Option.toList, List.cons_append, List.nil_append]
      refine r_bipush hm rfl (k := ?_)
      refine r_bipush hm rfl (k := ?_)
      refine r_bipush hm rfl (k := ?_)
      refine r_iconst hm rfl (k := ?_)
      refine r_calls (j2 := 232) hm rfl rfl rfl rfl rfl rfl (Nat.le_of_ble_eq_true rfl) (Nat.le_of_ble_eq_true rfl) rfl ⟨Nat.le_of_ble_eq_true rfl, Nat.le_of_ble_eq_true rfl, Nat.le_of_ble_eq_true rfl, Nat.le_of_ble_eq_true rfl, Nat.le_of_ble_eq_true rfl⟩ rfl (m_codeX (x := Int64.ofInt (cdW 10)) (by decide +kernel)) (fun v9 h9 p9 => ?_)
      obtain ⟨e1, e2⟩ := p9
      subst e2
      replace e1 := e1.symm
      subst e1
      change RN 238 90 _ _ _ 0 0 _
      dsimp only [Option.toList, List.cons_append, List.nil_append]
      refine r_lconst hm rfl (k := ?_)
      refine r_bipush hm rfl (k := ?_)
      refine r_bipush hm rfl (k := ?_)
      refine r_bipush hm rfl (k := ?_)
      refine r_bipush hm rfl (k := ?_)
      refine r_calls (j2 := 232) hm rfl rfl rfl rfl rfl rfl (Nat.le_of_ble_eq_true rfl) (Nat.le_of_ble_eq_true rfl) rfl ⟨Nat.le_of_ble_eq_true rfl, Nat.le_of_ble_eq_true rfl, Nat.le_of_ble_eq_true rfl, Nat.le_of_ble_eq_true rfl, Nat.le_of_ble_eq_true rfl⟩ rfl (m_codeX rfl) (fun v9 h9 p9 => ?_)
      obtain ⟨e1, e2⟩ := p9
      subst e2
      replace e1 := e1.symm
      subst e1
      change RN 238 102 _ _ _ 0 0 _
      dsimp only [Option.toList, List.cons_append, List.nil_append]
      refine r_bipush hm rfl (k := ?_)
      refine r_iconst hm rfl (k := ?_)
      refine r_iconst hm rfl (k := ?_)
      refine r_iconst hm rfl (k := ?_)
      refine r_calls (j2 := 232) hm rfl rfl rfl rfl rfl rfl (Nat.le_of_ble_eq_true rfl) (Nat.le_of_ble_eq_true rfl) rfl ⟨Nat.le_of_ble_eq_true rfl, Nat.le_of_ble_eq_true rfl, Nat.le_of_ble_eq_true rfl, Nat.le_of_ble_eq_true rfl, Nat.le_of_ble_eq_true rfl⟩ rfl (m_codeX (x := Int64.ofInt (cdW 11)) (by decide +kernel)) (fun v9 h9 p9 => ?_)
      obtain ⟨e1, e2⟩ := p9
      subst e2
      replace e1 := e1.symm
      subst e1
      change RN 238 110 _ _ _ 0 0 _
      dsimp only [Option.toList, List.cons_append, List.nil_append]
      refine r_callv (j2 := 237) hm rfl rfl rfl rfl rfl rfl (by first | assumption | exact (g1.1 _).trans rfl) (Nat.le_of_ble_eq_true rfl) (Nat.le_of_ble_eq_true rfl) rfl ⟨Nat.le_of_ble_eq_true rfl, Nat.le_of_ble_eq_true rfl, Nat.le_of_ble_eq_true rfl, Nat.le_of_ble_eq_true rfl, Nat.le_of_ble_eq_true rfl⟩ rfl (m_oneX Q1 x3 te2 (a1 := cdW 3) (a2 := cdW 10) (a3 := cdW 11) rfl rfl rfl (c9 3 (by omega)) (c9 10 (by omega)) (c9 11 (by omega))) (fun v9 hB_ p9 => ?_)
      obtain ⟨SB, e51, e1⟩ := p9
      subst e1
      rw [nP] at e51
      rw [nP]
      have wr := wC_rng (b := b) nR.2.1
      have S3 := S2.trans (SB.mono (T := (fun a k => (a = 1085 ∧ (k = 50 ∨ k = 51 ∨ k = 54 ∨ k = 55)) ∨ a = 1126)) (fun a k z => by omega))
      have Q3 := Q.fr S3 (fun a k z => by omega)
      obtain ⟨g1, ql, qn, qb, qr⟩ := id Q3
      have b50 : hB_.2.1 1085 50 = h.2.1 1085 50 := by rw [SB.2.2 _ _ (by omega)]; exact x4
      have b55 : hB_.2.1 1085 55 = (u : Int) := by rw [SB.2.2 _ _ (by omega)]; exact x5
      have bFr : ∀ k, k < 13 → hB_.2.1 1126 k = s.2.2.2.1 k := fun k hk => by rw [SB.2.2 _ _ (by omega), SA.2.2 _ _ (by omega)]; exact hd k hk
      have wi3 := wC_is (b := b) (i := 3) nR.2.1 (by omega)
      have wi10 := wC_is (b := b) (i := 10) nR.2.1 (by omega)
      have wi11 := wC_is (b := b) (i := 11) nR.2.1 (by omega)
      have l0 : s.2.2.2.2.2 u = 0 := by omega
      have eA : psA (adv b n s) s.1 (u : Int) = stL (adv b n s) u 1 := by unfold psA; rw [Int.toNat_natCast]; congr 1; exact if_neg (fun z => z l0)
      obtain ⟨sA, esA⟩ : ∃ sA, stL (adv b n s) u 1 = sA := ⟨_, rfl⟩
      have pA : sA.1 = nxz b n s.1 := by rw [← esA]; rfl
      have fA : sA.2.1 = 0 := by rw [← esA]; exact f0
      have aA : sA.2.2.1 = s.2.2.1 := by rw [← esA]; rfl
      have dA : sA.2.2.2.1 = s.2.2.2.1 := by rw [← esA]; rfl
      have cA : sA.2.2.2.2.1 = s.2.2.2.2.1 := by rw [← esA]; rfl
      have lA : sA.2.2.2.2.2 = upf s.2.2.2.2.2 u 1 := by rw [← esA]; rfl
      have eX : psl b n s = psC b n (psB b n sA (u : Int)) (u : Int) := by unfold psl; rw [eT]; dsimp only; rw [eA, esA]
      have hfk : (oneK (wC b n (nxz b n s.1)) (cdW 3) (cdW 10) (cdW 11) = -1 ∧ frm b n sA = (nt sA 1, 0)) ∨ (0 ≤ oneK (wC b n (nxz b n s.1)) (cdW 3) (cdW 10) (cdW 11) ∧ oneK (wC b n (nxz b n s.1)) (cdW 3) (cdW 10) (cdW 11) ≤ 2 ∧ frm b n sA = (sA, oneK (wC b n (nxz b n s.1)) (cdW 3) (cdW 10) (cdW 11)) ∧ tkz b n (nxz b n s.1) = 1) := by
        unfold frm
        rw [pA]
        have k1 := (wd_let (i := 3) (by omega)).2
        have k2 := (wd_let (i := 10) (by omega)).2
        have k3 := (wd_let (i := 11) (by omega)).2
        have n1 : cdW 3 ≠ cdW 10 := by decide +kernel
        have n2 : cdW 3 ≠ cdW 11 := by decide +kernel
        have n3 : cdW 10 ≠ cdW 11 := by decide +kernel
        unfold oneK
        by_cases w3 : wC b n (nxz b n s.1) = cdW 3
        · right
          have i10 : ¬ isW b n (nxz b n s.1) 10 = true := fun z => n1 (by rw [← w3, wi10.mpr z])
          have i11 : ¬ isW b n (nxz b n s.1) 11 = true := fun z => n2 (by rw [← w3, wi11.mpr z])
          rw [if_neg (show ¬ wC b n (nxz b n s.1) = 0 by omega), if_pos w3, if_neg i10, if_neg i11, if_pos (wi3.mp w3)]
          exact ⟨by omega, by omega, rfl, isW_tk (wi3.mp w3)⟩
        · have i3 : ¬ isW b n (nxz b n s.1) 3 = true := fun z => w3 (wi3.mpr z)
          by_cases w10 : wC b n (nxz b n s.1) = cdW 10
          · right
            rw [if_neg (show ¬ wC b n (nxz b n s.1) = 0 by omega), if_neg w3, if_pos w10, if_pos (wi10.mp w10)]
            exact ⟨by omega, by omega, rfl, isW_tk (wi10.mp w10)⟩
          · have i10 : ¬ isW b n (nxz b n s.1) 10 = true := fun z => w10 (wi10.mpr z)
            by_cases w11 : wC b n (nxz b n s.1) = cdW 11
            · right
              rw [if_neg (show ¬ wC b n (nxz b n s.1) = 0 by omega), if_neg w3, if_neg w10, if_pos w11, if_neg i10, if_pos (wi11.mp w11)]
              exact ⟨by omega, by omega, rfl, isW_tk (wi11.mp w11)⟩
            · have i11 : ¬ isW b n (nxz b n s.1) 11 = true := fun z => w11 (wi11.mpr z)
              left
              rw [if_neg w3, if_neg w10, if_neg w11, if_neg i10, if_neg i11, if_neg i3]
              refine ⟨?_, rfl⟩
              split <;> rfl
      obtain ⟨y9, ey9⟩ : ∃ y9, oneK (wC b n (nxz b n s.1)) (cdW 3) (cdW 10) (cdW 11) = y9 := ⟨_, rfl⟩
      rw [ey9] at e51 hfk
      rw [ey9]
      change RN 238 113 _ _ _ 0 0 _
      dsimp only [Option.toList, List.cons_append, List.nil_append]
      refine r_istore hm rfl (k := ?_)
      refine r_iload hm rfl (k := ?_)
      refine r_if_ge (t := 130) hm rfl rfl (fun c117 => ?_) (fun c117 => ?_)
      · obtain ⟨y1, y2, eF, tk1⟩ : 0 ≤ y9 ∧ y9 ≤ 2 ∧ frm b n sA = (sA, y9) ∧ tkz b n (nxz b n s.1) = 1 := by
          rcases hfk with z | z
          · exfalso; omega
          · exact z
        rw [if_neg (by omega), (wE_tk nR.2.1).1 tk1] at e51
        obtain ⟨te5, te6, te7⟩ := tez_rng (b := b) nR.2.1
        refine r_aload_n hm rfl (k := ?_)
        refine r_getR (hm := hm) (hf := rfl) (hd := rfl) (hs := (by first | assumption | exact (g1.1 _).trans rfl)) (hv := (by first | exact putI_eq | exact (putI_ne (by omega)).trans (by first | exact putI_eq | exact (putI_ne (by omega)).trans (by first | first | assumption | exact g1.2 _ _ _ rfl | exact qb _ (by omega) | exact x5 | exact x3 | exact qb9) | first | assumption | exact g1.2 _ _ _ rfl | exact qb _ (by omega) | exact x5 | exact x3 | exact qb9) | first | assumption | exact g1.2 _ _ _ rfl | exact qb _ (by omega) | exact x5 | exact x3 | exact qb9)) (k := ?_)
        refine r_iconst hm rfl (k := ?_)
        refine r_iload_n hm rfl (k := ?_)
        refine r_iadd hm rfl (hr := (by omega)) (k := ?_)
        refine r_iconst hm rfl (k := ?_)
        refine r_isub hm rfl (hr := (by omega)) (k := ?_)
        refine r_iload hm rfl (k := ?_)
        refine r_iast (hm := hm) (hf := rfl) (h28 := (by omega)) (hs := (by first | assumption | exact (g1.1 _).trans rfl)) (kk := 1 + u) (hi := by omega) (hn := (by omega)) (k := ?_)
        have S4 : SmL (fun a k => (a = 1085 ∧ (k = 50 ∨ k = 51 ∨ k = 54 ∨ k = 55)) ∨ a = 1126) h (putI hB_ 1126 (1 + u) y9) := SmL.put S3 (by omega)
        have Q4 := Q.fr S4 (fun a k z => by omega)
        obtain ⟨g1, ql, qn, qb, qr⟩ := id Q4
        have hp4 : (putI hB_ 1126 (1 + u) y9).2.1 1085 51 = ((tez b n (nxz b n s.1) : Nat) : Int) := by rw [putI_ne (by omega)]; exact e51
        obtain ⟨sB9, esB⟩ : ∃ sB9, psB b n sA (u : Int) = sB9 := ⟨_, rfl⟩
        have eB : sB9 = adv b n (stD sA (1 + u) y9) := by rw [← esB]; unfold psB; rw [eF, Int.toNat_natCast]
        have pB : sB9.1 = nxz b n (nxz b n s.1) := by rw [eB]; show nxz b n sA.1 = _; rw [pA]
        have nP2 : sk b n (tez b n (nxz b n s.1)) = sB9.1 := by rw [pB]; rfl
        have nR2 := nxz_rng (b := b) nR.2.1
        have fB : sB9.2.1 = 0 := by rw [eB]; exact fA
        have aB : sB9.2.2.1 = s.2.2.1 := by rw [eB]; exact aA
        have dB : sB9.2.2.2.1 = upf s.2.2.2.1 (1 + u) y9 := by rw [eB, ← dA]; rfl
        have cB : sB9.2.2.2.2.1 = s.2.2.2.2.1 := by rw [eB]; exact cA
        have lB : sB9.2.2.2.2.2 = upf s.2.2.2.2.2 u 1 := by rw [eB]; exact lA
        rw [esB] at eX
        refine r_aload_n hm rfl (k := ?_)
        refine r_getR (hm := hm) (hf := rfl) (hd := rfl) (hs := (by first | assumption | exact (g1.1 _).trans rfl)) (hv := (by first | exact putI_eq | exact (putI_ne (by omega)).trans (by first | exact putI_eq | exact (putI_ne (by omega)).trans (by first | first | assumption | exact g1.2 _ _ _ rfl | exact qb _ (by omega) | exact x5 | exact x3 | exact qb9) | first | assumption | exact g1.2 _ _ _ rfl | exact qb _ (by omega) | exact x5 | exact x3 | exact qb9) | first | assumption | exact g1.2 _ _ _ rfl | exact qb _ (by omega) | exact x5 | exact x3 | exact qb9)) (k := ?_)
        refine r_bipush hm rfl (k := ?_)
        refine r_iload_n hm rfl (k := ?_)
        refine r_iadd hm rfl (hr := (by omega)) (k := ?_)
        refine r_iconst hm rfl (k := ?_)
        refine r_isub hm rfl (hr := (by omega)) (k := ?_)
        refine r_aload_n hm rfl (k := ?_)
        refine r_lconst hm rfl (k := ?_)
        refine r_bipush hm rfl (k := ?_)
        refine r_bipush hm rfl (k := ?_)
        refine r_bipush hm rfl (k := ?_)
        refine r_bipush hm rfl (k := ?_)
        refine r_calls (j2 := 232) hm rfl rfl rfl rfl rfl rfl (Nat.le_of_ble_eq_true rfl) (Nat.le_of_ble_eq_true rfl) rfl ⟨Nat.le_of_ble_eq_true rfl, Nat.le_of_ble_eq_true rfl, Nat.le_of_ble_eq_true rfl, Nat.le_of_ble_eq_true rfl, Nat.le_of_ble_eq_true rfl⟩ rfl (m_codeX (x := Int64.ofInt (cdW 8)) (by decide +kernel)) (fun v9 h9 p9 => ?_)
        obtain ⟨e1, e2⟩ := p9
        subst e2
        replace e1 := e1.symm
        subst e1
        change RN 238 165 _ _ _ 0 0 _
        dsimp only [Option.toList, List.cons_append, List.nil_append]
        refine r_ldc2 hm rfl (hd := rfl) (k := ?_)
        refine r_ldc2 hm rfl (hd := rfl) (k := ?_)
        refine r_callv (j2 := 237) hm rfl rfl rfl rfl rfl rfl (by first | assumption | exact (g1.1 _).trans rfl) (Nat.le_of_ble_eq_true rfl) (Nat.le_of_ble_eq_true rfl) rfl ⟨Nat.le_of_ble_eq_true rfl, Nat.le_of_ble_eq_true rfl, Nat.le_of_ble_eq_true rfl, Nat.le_of_ble_eq_true rfl, Nat.le_of_ble_eq_true rfl⟩ rfl (m_oneX Q4 hp4 te6 (a1 := cdW 8) (a2 := -1) (a3 := -1) rfl (by decide +kernel) (by decide +kernel) (c9 8 (by omega)) (by omega) (by omega)) (fun v9 hC p9 => ?_)
        obtain ⟨SC, e51, e1⟩ := p9
        subst e1
        rw [nP2] at e51
        rw [nP2]
        have pBn : sB9.1 ≤ n := by rw [pB]; exact nR2.2.1
        have wr2 := wC_rng (b := b) pBn
        rw [oneK1 wr2.1 (wd_let (i := 8) (by omega)).2.1] at e51
        rw [oneK1 wr2.1 (wd_let (i := 8) (by omega)).2.1]
        have wi8 := wC_is (b := b) (i := 8) pBn (by omega)
        have S5 := S4.trans (SC.mono (T := (fun a k => (a = 1085 ∧ (k = 50 ∨ k = 51 ∨ k = 54 ∨ k = 55)) ∨ a = 1126)) (fun a k z => by omega))
        have Q5 := Q.fr S5 (fun a k z => by omega)
        obtain ⟨g1, ql, qn, qb, qr⟩ := id Q5
        have d50 : hC.2.1 1085 50 = h.2.1 1085 50 := by rw [SC.2.2 _ _ (by omega), putI_ne (by omega)]; exact b50
        have d55 : hC.2.1 1085 55 = (u : Int) := by rw [SC.2.2 _ _ (by omega), putI_ne (by omega)]; exact b55
        have dFr : ∀ k, k < 13 → hC.2.1 1126 k = sB9.2.2.2.1 k := fun k hk => by
          rw [SC.2.2 _ _ (by omega), dB]
          by_cases e : k = 1 + u
          · rw [e, putI_eq, upf_eq]
          · rw [putI_ne (by omega), upf_ne e]; exact bFr k hk
        obtain ⟨y8, ey8⟩ : ∃ y8, (if wC b n sB9.1 = cdW 8 then (0 : Int) else -1) = y8 := ⟨_, rfl⟩
        rw [ey8] at e51
        rw [ey8]
        change RN 238 174 _ _ _ 0 0 _
        dsimp only [Option.toList, List.cons_append, List.nil_append]
        refine r_if_ne (t := 181) hm rfl rfl (fun c174 => ?_) (fun c174 => ?_)
        · refine r_iconst hm rfl (k := ?_)
          refine r_iast (hm := hm) (hf := rfl) (h28 := (by omega)) (hs := (by first | assumption | exact (g1.1 _).trans rfl)) (kk := 5 + u) (hi := by omega) (hn := (by omega)) (k := ?_)
          refine r_iconst hm rfl (k := ?_)
          refine r_ireturn hm rfl rfl (by rfl) (Nat.le_of_ble_eq_true rfl) (Nat.le_of_ble_eq_true rfl) ?_
          have hw : ¬ wC b n sB9.1 = cdW 8 := fun z => by rw [if_pos z] at ey8; omega
          have y8m : y8 = -1 := by rw [← ey8]; exact if_neg hw
          rw [if_pos (by omega)] at e51
          have eC : psC b n sB9 (u : Int) = stD sB9 (5 + u) 0 := by unfold psC; rw [if_neg (fun z => hw (wi8.mpr z)), Int.toNat_natCast]
          rw [eX, eC]
          refine ⟨SmL.put S5 (by omega), 0, rfl, ⟨fB.symm, ?_, fun _ => ⟨sB9.1, ?_, pBn, by show sk b n sB9.1 = sB9.1; rw [pB]; exact nxz_sk nR.2.1, fun k hk => ?_⟩⟩, fun _ => ⟨u, ?_, hu4.1, hu4.2, cB, lB⟩⟩
          · rw [putI_ne (by omega), d50, hf]; exact aB.symm
          · rw [putI_ne (by omega)]; exact e51
          · show _ = upf sB9.2.2.2.1 (5 + u) 0 k
            by_cases e : k = 5 + u
            · rw [e, putI_eq, upf_eq]
            · rw [putI_ne (by omega), upf_ne e]; exact dFr k hk
          · rw [putI_ne (by omega)]; exact d55
        · refine r_iconst hm rfl (k := ?_)
          refine r_goto (t := 182) hm rfl (k := ?_)
          refine r_iast (hm := hm) (hf := rfl) (h28 := (by omega)) (hs := (by first | assumption | exact (g1.1 _).trans rfl)) (kk := 5 + u) (hi := by omega) (hn := (by omega)) (k := ?_)
          refine r_iconst hm rfl (k := ?_)
          refine r_ireturn hm rfl rfl (by rfl) (Nat.le_of_ble_eq_true rfl) (Nat.le_of_ble_eq_true rfl) ?_
          have hw : wC b n sB9.1 = cdW 8 := by
            apply Decidable.byContradiction
            intro z
            rw [if_neg z] at ey8
            omega
          have hT := wi8.mp hw
          rw [if_neg (by omega), (wE_tk pBn).1 (isW_tk hT)] at e51
          have eC : psC b n sB9 (u : Int) = adv b n (stD sB9 (5 + u) 1) := by unfold psC; rw [if_pos hT, Int.toNat_natCast]
          rw [eX, eC]
          refine ⟨SmL.put S5 (by omega), 0, rfl, ⟨fB.symm, ?_, fun _ => ⟨tez b n sB9.1, ?_, (tez_rng pBn).2.1, rfl, fun k hk => ?_⟩⟩, fun _ => ⟨u, ?_, hu4.1, hu4.2, cB, lB⟩⟩
          · rw [putI_ne (by omega), d50, hf]; exact aB.symm
          · rw [putI_ne (by omega)]; exact e51
          · show _ = upf sB9.2.2.2.1 (5 + u) 1 k
            by_cases e : k = 5 + u
            · rw [e, putI_eq, upf_eq]
            · rw [putI_ne (by omega), upf_ne e]; exact dFr k hk
          · rw [putI_ne (by omega)]; exact d55
      · refine r_aload_n hm rfl (k := ?_)
        refine r_iconst hm rfl (k := ?_)
        refine r_aload_n hm rfl (k := ?_)
        refine r_getI (hm := hm) (hf := rfl) (hd := rfl) (hs := (by first | assumption | exact (g1.1 _).trans rfl)) (hv := (by first | exact putI_eq | exact (putI_ne (by omega)).trans (by first | exact putI_eq | exact (putI_ne (by omega)).trans (by first | first | assumption | exact g1.2 _ _ _ rfl | exact qb _ (by omega) | exact x5 | exact x3 | exact qb9) | first | assumption | exact g1.2 _ _ _ rfl | exact qb _ (by omega) | exact x5 | exact x3 | exact qb9) | first | assumption | exact g1.2 _ _ _ rfl | exact qb _ (by omega) | exact x5 | exact x3 | exact qb9)) (k := ?_)
        refine r_callv (j2 := 234) hm rfl rfl rfl rfl rfl rfl (by first | assumption | exact (g1.1 _).trans rfl) (Nat.le_of_ble_eq_true rfl) (Nat.le_of_ble_eq_true rfl) rfl ⟨Nat.le_of_ble_eq_true rfl, Nat.le_of_ble_eq_true rfl, Nat.le_of_ble_eq_true rfl, Nat.le_of_ble_eq_true rfl, Nat.le_of_ble_eq_true rfl⟩ rfl (m_fails Q3) (fun v9 h9 p9 => ?_)
        obtain ⟨e1, e2⟩ := p9
        subst e2
        subst e1
        change RN 238 129 _ _ _ 0 0 _
        dsimp only [Option.toList, List.cons_append, List.nil_append]
        refine r_ireturn hm rfl rfl (by rfl) (Nat.le_of_ble_eq_true rfl) (Nat.le_of_ble_eq_true rfl) ?_
        have eF : frm b n sA = (nt sA 1, 0) := by
          rcases hfk with z | z
          · exact z.2
          · exfalso; omega
        have eN : nt sA 1 = (nxz b n s.1, 1, (nxz b n s.1 : Int), sA.2.2.2.1, sA.2.2.2.2.1, sA.2.2.2.2.2) := by rw [nt_0 fA, pA]
        have hB2 : (psB b n sA (u : Int)).2.1 = 1 ∧ (psB b n sA (u : Int)).2.2.1 = (nxz b n s.1 : Int) := by unfold psB; rw [eF, eN]; exact ⟨rfl, rfl⟩
        obtain ⟨k1, k2⟩ := fz_psC (b := b) (n := n) (s := psB b n sA (u : Int)) (v := (u : Int)) (by rw [hB2.1]; decide)
        rw [if_pos (by omega)] at e51
        refine ⟨SmL.put S3 (by omega), 1, rfl, ⟨?_, ?_, fun z => absurd z (by decide)⟩, fun z => absurd z (by decide)⟩
        · rw [eX, k1, hB2.1]
        · rw [eX, k2, hB2.2]; rw [putI_eq, if_pos (by omega)]
    · have hd1 := fun q h1 h2 => srt2.mp ((tez_all hPl (Or.inr x1) q h1 h2).trans x1)
      have hlen : tez b n s.1 - s.1 ≤ 2 := by
        apply Decidable.byContradiction
        intro z
        have : vl b n s.1 = -1 := by unfold vl; rw [if_pos (by omega)]
        omega
      have hv9 : vl b n s.1 = vlN b (tez b n s.1 - s.1) s.1 0 := by unfold vl; rw [if_neg (by omega)]
      have hat : (tez b n s.1 = s.1 + 1 ∧ b (tez b n s.1 - 2) ≠ 48) ∨ (tez b n s.1 = s.1 + 2 ∧ b (tez b n s.1 - 2) = 48) := by
        by_cases z : tez b n s.1 = s.1 + 1
        · left
          rw [z, show s.1 + 1 - 2 = s.1 - 1 by omega]
          exact ⟨rfl, hpr.2⟩
        · right
          have z2 : tez b n s.1 = s.1 + 2 := by omega
          refine ⟨z2, ?_⟩
          rw [z2, show s.1 + 2 - s.1 = 2 by omega] at hv9
          have e9 : vlN b 2 s.1 0 = (0 * 10 + b s.1 - 48) * 10 + b (s.1 + 1) - 48 := rfl
          have d1 := hd1 s.1 (by omega) (by omega)
          have d2 := hd1 (s.1 + 1) (by omega) (by omega)
          rw [z2, show s.1 + 2 - 2 = s.1 by omega]
          omega
      have qb9 := qb (tez b n s.1 - 2) (by omega)
      have qr9 := qr (tez b n s.1 - 2) (by omega)
      refine r_aload_n hm rfl (k := ?_)
      refine r_iconst hm rfl (k := ?_)
      refine r_aload_n hm rfl (k := ?_)
      refine r_getI (hm := hm) (hf := rfl) (hd := rfl) (hs := (by first | assumption | exact (g1.1 _).trans rfl)) (hv := (by first | exact putI_eq | exact (putI_ne (by omega)).trans (by first | exact putI_eq | exact (putI_ne (by omega)).trans (by first | first | assumption | exact g1.2 _ _ _ rfl | exact qb _ (by omega) | exact x5 | exact x3 | exact qb9) | first | assumption | exact g1.2 _ _ _ rfl | exact qb _ (by omega) | exact x5 | exact x3 | exact qb9) | first | assumption | exact g1.2 _ _ _ rfl | exact qb _ (by omega) | exact x5 | exact x3 | exact qb9)) (k := ?_)
      refine r_iconst hm rfl (k := ?_)
      refine r_isub hm rfl (hr := (by omega)) (k := ?_)
      refine r_aload_n hm rfl (k := ?_)
      refine r_getR (hm := hm) (hf := rfl) (hd := rfl) (hs := (by first | assumption | exact (g1.1 _).trans rfl)) (hv := (by first | exact putI_eq | exact (putI_ne (by omega)).trans (by first | exact putI_eq | exact (putI_ne (by omega)).trans (by first | first | assumption | exact g1.2 _ _ _ rfl | exact qb _ (by omega) | exact x5 | exact x3 | exact qb9) | first | assumption | exact g1.2 _ _ _ rfl | exact qb _ (by omega) | exact x5 | exact x3 | exact qb9) | first | assumption | exact g1.2 _ _ _ rfl | exact qb _ (by omega) | exact x5 | exact x3 | exact qb9)) (k := ?_)
      refine r_aload_n hm rfl (k := ?_)
      refine r_getI (hm := hm) (hf := rfl) (hd := rfl) (hs := (by first | assumption | exact (g1.1 _).trans rfl)) (hv := (by first | exact putI_eq | exact (putI_ne (by omega)).trans (by first | exact putI_eq | exact (putI_ne (by omega)).trans (by first | first | assumption | exact g1.2 _ _ _ rfl | exact qb _ (by omega) | exact x5 | exact x3 | exact qb9) | first | assumption | exact g1.2 _ _ _ rfl | exact qb _ (by omega) | exact x5 | exact x3 | exact qb9) | first | assumption | exact g1.2 _ _ _ rfl | exact qb _ (by omega) | exact x5 | exact x3 | exact qb9)) (k := ?_)
      refine r_iconst hm rfl (k := ?_)
      refine r_isub hm rfl (hr := (by omega)) (k := ?_)
      refine r_iald (hm := hm) (hf := rfl) (hs := (by first | assumption | exact (g1.1 _).trans rfl)) (kk := (tez b n s.1 - 2)) (hi := by omega) (hn := (by omega)) (hv := (by first | exact putI_eq | exact (putI_ne (by omega)).trans (by first | exact putI_eq | exact (putI_ne (by omega)).trans (by first | first | assumption | exact g1.2 _ _ _ rfl | exact qb _ (by omega) | exact x5 | exact x3 | exact qb9) | first | assumption | exact g1.2 _ _ _ rfl | exact qb _ (by omega) | exact x5 | exact x3 | exact qb9) | first | assumption | exact g1.2 _ _ _ rfl | exact qb _ (by omega) | exact x5 | exact x3 | exact qb9)) (k := ?_)
      refine r_bipush hm rfl (k := ?_)
      refine r_icmp_ne (t := 58) hm rfl rfl (fun c51 => ?_) (fun c51 => ?_)
      · refine r_iconst hm rfl (k := ?_)
        refine r_isub hm rfl (hr := (by omega)) (k := ?_)
        refine r_callv (j2 := 234) hm rfl rfl rfl rfl rfl rfl (by first | assumption | exact (g1.1 _).trans rfl) (Nat.le_of_ble_eq_true rfl) (Nat.le_of_ble_eq_true rfl) rfl ⟨Nat.le_of_ble_eq_true rfl, Nat.le_of_ble_eq_true rfl, Nat.le_of_ble_eq_true rfl, Nat.le_of_ble_eq_true rfl, Nat.le_of_ble_eq_true rfl⟩ rfl (m_fails Q1) (fun v9 h9 p9 => ?_)
        obtain ⟨e1, e2⟩ := p9
        subst e2
        subst e1
        change RN 238 63 _ _ _ 0 0 _
        dsimp only [Option.toList, List.cons_append, List.nil_append]
        refine r_ireturn hm rfl rfl (by rfl) (Nat.le_of_ble_eq_true rfl) (Nat.le_of_ble_eq_true rfl) ?_
        have l1 : s.2.2.2.2.2 u = 1 := by omega
        have eA : psA (adv b n s) s.1 (u : Int) = stL (noA (adv b n s) 3 (s.1 : Int)) u 1 := by unfold psA; rw [Int.toNat_natCast]; congr 1; exact if_pos (by show s.2.2.2.2.2 u ≠ 0; omega)
        have eN : noA (adv b n s) 3 (s.1 : Int) = (nxz b n s.1, 3, (s.1 : Int), s.2.2.2.1, s.2.2.2.2.1, s.2.2.2.2.2) := noA_0 f0
        have eX : psl b n s = psC b n (psB b n (stL (nxz b n s.1, 3, (s.1 : Int), s.2.2.2.1, s.2.2.2.2.1, s.2.2.2.2.2) u 1) (u : Int)) (u : Int) := by unfold psl; rw [eT]; dsimp only; rw [eA, eN]
        obtain ⟨b1, b2⟩ := fz_psB (b := b) (n := n) (s := stL (nxz b n s.1, 3, (s.1 : Int), s.2.2.2.1, s.2.2.2.2.1, s.2.2.2.2.2) u 1) (v := (u : Int)) (by show (3 : Int) ≠ 0; decide)
        obtain ⟨k1, k2⟩ := fz_psC (b := b) (n := n) (s := psB b n (stL (nxz b n s.1, 3, (s.1 : Int), s.2.2.2.1, s.2.2.2.2.1, s.2.2.2.2.2) u 1) (u : Int)) (v := (u : Int)) (by rw [b1]; show (3 : Int) ≠ 0; decide)
        refine ⟨SmL.put S2 (by omega), 3, rfl, ⟨?_, ?_, fun z => absurd z (by decide)⟩, fun z => absurd z (by decide)⟩
        · rw [eX, k1, b1]; rfl
        · rw [eX, k2, b2]; rw [putI_eq]; show _ = (s.1 : Int); omega
      · refine r_iconst hm rfl (k := ?_)
        refine r_goto (t := 59) hm rfl (k := ?_)
        refine r_isub hm rfl (hr := (by omega)) (k := ?_)
        refine r_callv (j2 := 234) hm rfl rfl rfl rfl rfl rfl (by first | assumption | exact (g1.1 _).trans rfl) (Nat.le_of_ble_eq_true rfl) (Nat.le_of_ble_eq_true rfl) rfl ⟨Nat.le_of_ble_eq_true rfl, Nat.le_of_ble_eq_true rfl, Nat.le_of_ble_eq_true rfl, Nat.le_of_ble_eq_true rfl, Nat.le_of_ble_eq_true rfl⟩ rfl (m_fails Q1) (fun v9 h9 p9 => ?_)
        obtain ⟨e1, e2⟩ := p9
        subst e2
        subst e1
        change RN 238 63 _ _ _ 0 0 _
        dsimp only [Option.toList, List.cons_append, List.nil_append]
        refine r_ireturn hm rfl rfl (by rfl) (Nat.le_of_ble_eq_true rfl) (Nat.le_of_ble_eq_true rfl) ?_
        have l1 : s.2.2.2.2.2 u = 1 := by omega
        have eA : psA (adv b n s) s.1 (u : Int) = stL (noA (adv b n s) 3 (s.1 : Int)) u 1 := by unfold psA; rw [Int.toNat_natCast]; congr 1; exact if_pos (by show s.2.2.2.2.2 u ≠ 0; omega)
        have eN : noA (adv b n s) 3 (s.1 : Int) = (nxz b n s.1, 3, (s.1 : Int), s.2.2.2.1, s.2.2.2.2.1, s.2.2.2.2.2) := noA_0 f0
        have eX : psl b n s = psC b n (psB b n (stL (nxz b n s.1, 3, (s.1 : Int), s.2.2.2.1, s.2.2.2.2.1, s.2.2.2.2.2) u 1) (u : Int)) (u : Int) := by unfold psl; rw [eT]; dsimp only; rw [eA, eN]
        obtain ⟨b1, b2⟩ := fz_psB (b := b) (n := n) (s := stL (nxz b n s.1, 3, (s.1 : Int), s.2.2.2.1, s.2.2.2.2.1, s.2.2.2.2.2) u 1) (v := (u : Int)) (by show (3 : Int) ≠ 0; decide)
        obtain ⟨k1, k2⟩ := fz_psC (b := b) (n := n) (s := psB b n (stL (nxz b n s.1, 3, (s.1 : Int), s.2.2.2.1, s.2.2.2.2.1, s.2.2.2.2.2) u 1) (u : Int)) (v := (u : Int)) (by rw [b1]; show (3 : Int) ≠ 0; decide)
        refine ⟨SmL.put S2 (by omega), 3, rfl, ⟨?_, ?_, fun z => absurd z (by decide)⟩, fun z => absurd z (by decide)⟩
        · rw [eX, k1, b1]; rfl
        · rw [eX, k2, b2]; rw [putI_eq]; show _ = (s.1 : Int); omega
  · refine r_iload_n hm rfl (k := ?_)
    refine r_ireturn hm rfl rfl (by rfl) (Nat.le_of_ble_eq_true rfl) (Nat.le_of_ble_eq_true rfl) ?_
    have hz : ((tnm b n s 1 4).1).2.1 = x9 ∧ ((tnm b n s 1 4).1).2.2.1 = (s.1 : Int) := by
      rcases hx with ⟨z1, z2, z3, z4⟩ | ⟨z1, z2, z3, z4, z5⟩ | ⟨z1, z2, z3, z4⟩
      · have := tnm_a (lo := 1) (hi := 4) f0 z1
        exact ⟨this.1.trans z2.symm, this.2⟩
      · have := tnm_b f0 z1 z2
        exact ⟨this.1.trans z3.symm, this.2⟩
      · exfalso; omega
    obtain ⟨v1, v2⟩ := fz_psR (b := b) (n := n) (P := s.1) (s := (tnm b n s 1 4).1) (v := (tnm b n s 1 4).2) (by rw [hz.1]; omega)
    refine ⟨SA.mono (fun a k z => by omega), x9, rfl, ⟨?_, ?_, fun z => by omega⟩, fun z => by omega⟩
    · unfold psl; rw [v1, hz.1]
    · unfold psl; rw [v2, hz.2]; omega
