/-! the style read: the reference, a clause -/
theorem keyK_c {b : Nat → Int} {n P : Nat} (h : P ≤ n) : (keyK (wC b n P) = -1 ∧ isW b n P 0 = false ∧ isW b n P 2 = false ∧ isW b n P 3 = false ∧ isW b n P 5 = false ∧ isW b n P 6 = false) ∨ (keyK (wC b n P) = 0 ∧ isW b n P 0 = true) ∨ (keyK (wC b n P) = 1 ∧ isW b n P 0 = false ∧ isW b n P 2 = true) ∨ (keyK (wC b n P) = 2 ∧ isW b n P 0 = false ∧ isW b n P 2 = false ∧ isW b n P 3 = true) ∨ (keyK (wC b n P) = 3 ∧ isW b n P 0 = false ∧ isW b n P 2 = false ∧ isW b n P 3 = false ∧ isW b n P 5 = true) ∨ (keyK (wC b n P) = 4 ∧ isW b n P 0 = false ∧ isW b n P 2 = false ∧ isW b n P 3 = false ∧ isW b n P 5 = false ∧ isW b n P 6 = true) := by
  have nw : ∀ i, i < 12 → ¬ wC b n P = cdW i → isW b n P i = false := fun i hi z => by
    cases hh : isW b n P i
    · rfl
    · exact absurd ((wC_is h hi).mpr hh) z
  by_cases w0 : wC b n P = cdW 0
  · refine Or.inr (Or.inl ⟨by unfold keyK; rw [if_pos w0], (wC_is h (by omega)).mp w0⟩)
  · skip
    by_cases w2 : wC b n P = cdW 2
    · refine Or.inr (Or.inr (Or.inl ⟨by unfold keyK; rw [if_neg w0, if_pos w2], nw 0 (by omega) w0, (wC_is h (by omega)).mp w2⟩))
    · skip
      by_cases w3 : wC b n P = cdW 3
      · refine Or.inr (Or.inr (Or.inr (Or.inl ⟨by unfold keyK; rw [if_neg w0, if_neg w2, if_pos w3], nw 0 (by omega) w0, nw 2 (by omega) w2, (wC_is h (by omega)).mp w3⟩)))
      · skip
        by_cases w5 : wC b n P = cdW 5
        · refine Or.inr (Or.inr (Or.inr (Or.inr (Or.inl ⟨by unfold keyK; rw [if_neg w0, if_neg w2, if_neg w3, if_pos w5], nw 0 (by omega) w0, nw 2 (by omega) w2, nw 3 (by omega) w3, (wC_is h (by omega)).mp w5⟩))))
        · skip
          by_cases w6 : wC b n P = cdW 6
          · refine Or.inr (Or.inr (Or.inr (Or.inr (Or.inr (⟨by unfold keyK; rw [if_neg w0, if_neg w2, if_neg w3, if_neg w5, if_pos w6], nw 0 (by omega) w0, nw 2 (by omega) w2, nw 3 (by omega) w3, nw 5 (by omega) w5, (wC_is h (by omega)).mp w6⟩)))))
          · skip
            exact Or.inl ⟨by unfold keyK; rw [if_neg w0, if_neg w2, if_neg w3, if_neg w5, if_neg w6], nw 0 (by omega) w0, nw 2 (by omega) w2, nw 3 (by omega) w3, nw 5 (by omega) w5, nw 6 (by omega) w6⟩
theorem hr59 {b : Nat → Int} {n P : Nat} : hr9 b n P = 59 ↔ tkz b n P = 3 := by
  unfold hr9 tkz
  by_cases c : P < n
  · rw [if_pos c, if_pos c, srt3]
  · rw [if_neg c, if_neg c]; constructor <;> (intro z; omega)
theorem oneK2 {w c d : Int} (hw : 0 ≤ w) (hc : 0 < c) (hd : 0 < d) : oneK w c d (-1) = if w = c then 0 else if w = d then 1 else -1 := by
  unfold oneK
  by_cases e : w = c
  · rw [if_neg (by omega), if_pos e, if_pos e]
  · have e3 : (if w = c then (0 : Int) else if w = d then 1 else -1) = if w = d then 1 else -1 := if_neg e
    rw [e3]
    by_cases z : w = 0
    · rw [if_pos z, if_neg (by omega)]
    · rw [if_neg z, if_neg e]
      by_cases f : w = d
      · rw [if_pos f, if_pos f]
      · have f3 : (if w = d then (1 : Int) else -1) = -1 := if_neg f
        rw [f3, if_neg f, if_neg (by omega)]
theorem ct_tnm {b : Nat → Int} {n : Nat} {s : Rd} {lo hi : Int} : ((tnm b n s lo hi).1).2.2.2.2.1 = s.2.2.2.2.1 ∧ ((tnm b n s lo hi).1).2.2.2.2.2 = s.2.2.2.2.2 := by
  unfold tnm nt noA
  split
  · split <;> exact ⟨rfl, rfl⟩
  · split
    · split <;> exact ⟨rfl, rfl⟩
    · exact ⟨rfl, rfl⟩
theorem ct_twd {b : Nat → Int} {n i : Nat} {s : Rd} : (twd b n s i).2.2.2.2.1 = s.2.2.2.2.1 ∧ (twd b n s i).2.2.2.2.2 = s.2.2.2.2.2 := by
  unfold twd nt noA
  split
  · exact ⟨rfl, rfl⟩
  · split <;> exact ⟨rfl, rfl⟩
theorem ct_page {b : Nat → Int} {n : Nat} {s : Rd} : (tnD b n (twd b n (tnD b n s 8 60 0) 1) 10 90 1).2.2.2.2.1 = s.2.2.2.2.1 := by
  show ((tnm b n (twd b n (tnD b n s 8 60 0) 1) 10 90).1).2.2.2.2.1 = _
  rw [ct_tnm.1, ct_twd.1]
  exact ct_tnm.1
theorem lv_page {b : Nat → Int} {n : Nat} {s : Rd} : (tnD b n (twd b n (tnD b n s 8 60 0) 1) 10 90 1).2.2.2.2.2 = s.2.2.2.2.2 := by
  show ((tnm b n (twd b n (tnD b n s 8 60 0) 1) 10 90).1).2.2.2.2.2 = _
  rw [ct_tnm.2, ct_twd.2]
  exact ct_tnm.2
set_option maxHeartbeats 4000000 in
set_option maxRecDepth 8000 in
theorem m_readClause {L : Nat} {h : Hp} {b : Nat → Int} {n : Nat} (Q : MQr L h b n) {p : Nat} (hp : h.2.1 1085 51 = (p : Int)) (hpn : p ≤ n) {s : Rd} (ok : okR b n s) (hs : sk b n p = s.1) (f0 : s.2.1 = 0) (hf : h.2.1 1085 50 = s.2.2.1) (hd : ∀ k, k < 13 → h.2.1 1126 k = s.2.2.2.1 k) : RN 229 0 [some (.inr (.inr (some (1085)))), some (.inl (sn s.2.2.2.2.1 s.2.2.2.2.2)), none, none, none] [] h 0 0 (fun v h2 => SmL (fun a k => (a = 1085 ∧ (k = 50 ∨ k = 51 ∨ k = 54 ∨ k = 55 ∨ k = 56)) ∨ a = 1126) h h2 ∧ ∃ x, v = some (.inl x) ∧ RsM b n h2 x (pcl b n s) ∧ (x = 0 → op2 (· ||| ·) (sn s.2.2.2.2.1 s.2.2.2.2.2) (h2.2.1 1085 56) = sn (pcl b n s).2.2.2.2.1 (pcl b n s).2.2.2.2.2)) := by
  have hm : mrec 229 = some nM229 := rfl
  obtain ⟨g1, ql, qn, qb, qr⟩ := id Q
  have c9 : ∀ i, i < 12 → -1 ≤ cdW i ∧ cdW i ≤ 3000000000000 := fun i hi => by have := (wd_let hi).2; omega
  refine r_aload_n hm rfl (k := ?_)
  refine r_callv (j2 := 230) hm rfl rfl rfl rfl rfl rfl (by first | assumption | exact (g1.1 _).trans rfl) (Nat.le_of_ble_eq_true rfl) (Nat.le_of_ble_eq_true rfl) rfl ⟨Nat.le_of_ble_eq_true rfl, Nat.le_of_ble_eq_true rfl, Nat.le_of_ble_eq_true rfl, Nat.le_of_ble_eq_true rfl, Nat.le_of_ble_eq_true rfl⟩ rfl (m_readWord Q hp hpn) (fun v9 hA p9 => ?_)
  obtain ⟨SA, e51, e54, e53, e1⟩ := p9
  subst e1
  rw [hs] at e51 e54 e53
  have S1 : SmL (fun a k => (a = 1085 ∧ (k = 50 ∨ k = 51 ∨ k = 54 ∨ k = 55 ∨ k = 56)) ∨ a = 1126) h hA := SA.mono (fun a k z => by omega)
  have Q1 := Q.fr SA (fun a k z => by omega)
  obtain ⟨g1, ql, qn, qb, qr⟩ := id Q1
  have wr := wC_rng (b := b) ok.1
  have a50 : hA.2.1 1085 50 = s.2.2.1 := by rw [SA.2.2 _ _ (by omega)]; exact hf
  have aFr : ∀ k, k < 13 → hA.2.1 1126 k = s.2.2.2.1 k := fun k hk => by rw [SA.2.2 _ _ (by omega)]; exact hd k hk
  obtain ⟨⟨sb0, sb1, sb2, sb3, -⟩, so0, so1, so2, so3, -⟩ := sn_all ok.2.2.2.2.2.1 ok.2.2.2.2.2.2
  have nR := nxz_rng (b := b) ok.1
  obtain ⟨te1, te2, te3⟩ := tez_rng (b := b) ok.1
  change RN 229 4 _ _ _ 0 0 _
  dsimp only [Option.toList, List.nil_append]
  refine r_aload_n hm rfl (k := ?_)
  refine r_callv (j2 := 231) hm rfl rfl rfl rfl rfl rfl (by first | assumption | exact (g1.1 _).trans rfl) (Nat.le_of_ble_eq_true rfl) (Nat.le_of_ble_eq_true rfl) rfl ⟨Nat.le_of_ble_eq_true rfl, Nat.le_of_ble_eq_true rfl, Nat.le_of_ble_eq_true rfl, Nat.le_of_ble_eq_true rfl, Nat.le_of_ble_eq_true rfl⟩ rfl (m_keyOf Q1 e53 (by omega)) (fun v9 h9 p9 => ?_)
  obtain ⟨e1, e2⟩ := p9
  subst e2
  replace e1 := e1.symm
  subst e1
  change RN 229 8 _ _ _ 0 0 _
  dsimp only [Option.toList, List.cons_append, List.nil_append]
  refine r_istore_n hm rfl (k := ?_)
  have hK := keyK_c (b := b) ok.1
  obtain ⟨k9, ek9⟩ : ∃ k9, keyK (wC b n s.1) = k9 := ⟨_, rfl⟩
  rw [ek9] at hK
  rw [ek9]
  rcases hK with ⟨rfl, i0, i2, i3, i5, i6⟩ | ⟨rfl, i0⟩ | ⟨rfl, i0, i2⟩ | ⟨rfl, i0, i2, i3⟩ | ⟨rfl, i0, i2, i3, i5⟩ | ⟨rfl, i0, i2, i3, i5, i6⟩
  · refine r_iload_n hm rfl (k := ?_)
    refine r_if_ge (t := 23) hm rfl rfl (fun c10 => ?_) (fun c10 => ?_)
    · exfalso; omega
    · refine r_aload_n hm rfl (k := ?_)
      refine r_iconst hm rfl (k := ?_)
      refine r_aload_n hm rfl (k := ?_)
      refine r_getI (hm := hm) (hf := rfl) (hd := rfl) (hs := (by first | assumption | exact (g1.1 _).trans rfl)) (hv := (by first | exact putI_eq | exact (putI_ne (by omega)).trans (by first | exact putI_eq | exact (putI_ne (by omega)).trans (by first | first | assumption | exact g1.2 _ _ _ rfl | exact qb _ (by omega)) | first | assumption | exact g1.2 _ _ _ rfl | exact qb _ (by omega)) | first | assumption | exact g1.2 _ _ _ rfl | exact qb _ (by omega))) (k := ?_)
      refine r_callv (j2 := 234) hm rfl rfl rfl rfl rfl rfl (by first | assumption | exact (g1.1 _).trans rfl) (Nat.le_of_ble_eq_true rfl) (Nat.le_of_ble_eq_true rfl) rfl ⟨Nat.le_of_ble_eq_true rfl, Nat.le_of_ble_eq_true rfl, Nat.le_of_ble_eq_true rfl, Nat.le_of_ble_eq_true rfl, Nat.le_of_ble_eq_true rfl⟩ rfl (m_fails Q1) (fun v9 h9 p9 => ?_)
      obtain ⟨e1, e2⟩ := p9
      subst e2
      subst e1
      change RN 229 22 _ _ _ 0 0 _
      dsimp only [Option.toList, List.cons_append, List.nil_append]
      refine r_ireturn hm rfl rfl (by rfl) (Nat.le_of_ble_eq_true rfl) (Nat.le_of_ble_eq_true rfl) ?_
      have ePcl : pcl b n s = tsm b n (nt s 1) := by
        unfold pcl
        rw [if_neg (by rw [i0]; decide), if_neg (by rw [i2]; decide), if_neg (by rw [i3]; decide), if_neg (by rw [i5]; decide), if_neg (by rw [i6]; decide)]
      have eN : nt s 1 = (s.1, 1, (s.1 : Int), s.2.2.2.1, s.2.2.2.2.1, s.2.2.2.2.2) := nt_0 f0
      obtain ⟨t1, t2⟩ := fz_tsm (b := b) (n := n) (s := nt s 1) (by rw [eN]; show (1 : Int) ≠ 0; decide)
      refine ⟨SmL.put S1 (by omega), 1, rfl, ⟨?_, ?_, fun z => absurd z (by decide)⟩, fun z => absurd z (by decide)⟩
      · rw [ePcl, t1, eN]
      · rw [ePcl, t2, eN]; exact putI_eq
  · have ePcl0 : pcl b n s = tsm b n (tnD b n (twd b n (tnD b n (bgc b n s 0) 8 60 0) 1) 10 90 1) := by unfold pcl; rw [if_pos i0]
    have tk1 := isW_tk i0
    have okX0 : okR b n (tnD b n (twd b n (tnD b n (bgc b n s 0) 8 60 0) 1) 10 90 1) := okR.m_tnD (okR.m_twd (okR.m_tnD (okR.m_bgc ok) (by omega))) (by omega)
    rw [(wE_tk ok.1).1 tk1] at e54
    refine r_iload_n hm rfl (k := ?_)
    refine r_if_ge (t := 23) hm rfl rfl (fun c10 => ?_) (fun c10 => ?_)
    · refine r_iload_n hm rfl (k := ?_)
      refine r_iconst hm rfl (k := ?_)
      refine r_icmp_eq (t := 47) hm rfl rfl (fun c25 => ?_) (fun c25 => ?_)
      · exfalso; omega
      · refine r_iload_n hm rfl (k := ?_)
        refine r_iload_n hm rfl (k := ?_)
        refine r_ishr hm rfl (k := ?_)
        refine r_iconst hm rfl (k := ?_)
        refine r_iand hm rfl (k := ?_)
        show RN 229 33 _ (.inl (sBt (sn s.2.2.2.2.1 s.2.2.2.2.2) 0) :: _) _ _ _ _
        rw [sb0]
        refine r_iconst hm rfl (k := ?_)
        refine r_icmp_ne (t := 47) hm rfl rfl (fun c34 => ?_) (fun c34 => ?_)
        · refine r_aload_n hm rfl (k := ?_)
          refine r_aload_n hm rfl (k := ?_)
          refine r_getI (hm := hm) (hf := rfl) (hd := rfl) (hs := (by first | assumption | exact (g1.1 _).trans rfl)) (hv := (by first | exact putI_eq | exact (putI_ne (by omega)).trans (by first | exact putI_eq | exact (putI_ne (by omega)).trans (by first | first | assumption | exact g1.2 _ _ _ rfl | exact qb _ (by omega) | exact e54 | exact e51 | exact rfl) | first | assumption | exact g1.2 _ _ _ rfl | exact qb _ (by omega) | exact e54 | exact e51 | exact rfl) | first | assumption | exact g1.2 _ _ _ rfl | exact qb _ (by omega) | exact e54 | exact e51 | exact rfl)) (k := ?_)
          refine r_putI (hm := hm) (hf := rfl) (hd := rfl) (hs := (by first | assumption | exact (g1.1 _).trans rfl)) (hfin := Or.inl rfl) (hz := fun q9 => absurd q9 (by decide)) (k := ?_)
          refine r_iconst hm rfl (k := ?_)
          refine r_istore_n hm rfl (k := ?_)
          refine r_aload_n hm rfl (k := ?_)
          refine r_iconst hm rfl (k := ?_)
          refine r_iload_n hm rfl (k := ?_)
          refine r_ishl hm rfl (k := ?_)
          refine r_putI (hm := hm) (hf := rfl) (hd := rfl) (hs := (by first | assumption | exact (g1.1 _).trans rfl)) (hfin := Or.inl rfl) (hz := fun q9 => absurd q9 (by decide)) (k := ?_)
          have S2 : SmL (fun a k => (a = 1085 ∧ (k = 50 ∨ k = 51 ∨ k = 54 ∨ k = 55 ∨ k = 56)) ∨ a = 1126) h (putI (putI hA 1085 51 ((tez b n s.1 : Nat) : Int)) 1085 56 (op2 (fun a b => a <<< (b &&& 31)) 1 0)) := SmL.put (SmL.put S1 (by omega)) (by omega)
          have Q2 := Q.fr S2 (fun a k z => by omega)
          obtain ⟨g1, ql, qn, qb, qr⟩ := id Q2
          have p51 : (putI (putI hA 1085 51 ((tez b n s.1 : Nat) : Int)) 1085 56 (op2 (fun a b => a <<< (b &&& 31)) 1 0)).2.1 1085 51 = ((tez b n s.1 : Nat) : Int) := by rw [putI_ne (by omega), putI_eq]
          have ct0 : s.2.2.2.2.1 0 = 0 := by have := ok.2.2.2.2.2.1 0; omega
          have eB : bgc b n s 0 = adv b n (stC s 0 1) := by unfold bgc; rw [if_neg (fun z => z ct0)]
          obtain ⟨s1, es1⟩ : ∃ s1, (bgc b n s 0) = s1 := ⟨_, rfl⟩
          rw [es1] at ePcl0 okX0
          have ok1 : okR b n s1 := by rw [← es1]; exact okR.m_bgc ok
          have ps1 : sk b n (tez b n s.1) = s1.1 := by rw [← es1, eB]; rfl
          have fs1 : s1.2.1 = 0 := by rw [← es1, eB]; exact f0
          have as1 : s1.2.2.1 = s.2.2.1 := by rw [← es1, eB]; rfl
          have ds1 : s1.2.2.2.1 = s.2.2.2.1 := by rw [← es1, eB]; rfl
          have cs1 : s1.2.2.2.2.1 = upf s.2.2.2.2.1 0 1 := by rw [← es1, eB]; rfl
          have ls1 : s1.2.2.2.2.2 = s.2.2.2.2.2 := by rw [← es1, eB]; rfl
          have f50 : (putI (putI hA 1085 51 ((tez b n s.1 : Nat) : Int)) 1085 56 (op2 (fun a b => a <<< (b &&& 31)) 1 0)).2.1 1085 50 = s1.2.2.1 := by rw [putI_ne (by omega), putI_ne (by omega), as1]; exact a50
          have fFr : ∀ k, k < 13 → (putI (putI hA 1085 51 ((tez b n s.1 : Nat) : Int)) 1085 56 (op2 (fun a b => a <<< (b &&& 31)) 1 0)).2.1 1126 k = s1.2.2.2.1 k := fun k hk => by rw [putI_ne (by omega), putI_ne (by omega), ds1]; exact aFr k hk
          have h56 : (putI (putI hA 1085 51 ((tez b n s.1 : Nat) : Int)) 1085 56 (op2 (fun a b => a <<< (b &&& 31)) 1 0)).2.1 1085 56 = op2 (fun a b => a <<< (b &&& 31)) 1 0 := putI_eq
          refine r_iload_n hm rfl (k := ?_)
          refine r_if_ne (t := 76) hm rfl rfl (fun c65 => ?_) (fun c65 => ?_)
          · exfalso; omega
          · refine r_aload_n hm rfl (k := ?_)
            refine r_callv (j2 := 235) hm rfl rfl rfl rfl rfl rfl (by first | assumption | exact (g1.1 _).trans rfl) (Nat.le_of_ble_eq_true rfl) (Nat.le_of_ble_eq_true rfl) rfl ⟨Nat.le_of_ble_eq_true rfl, Nat.le_of_ble_eq_true rfl, Nat.le_of_ble_eq_true rfl, Nat.le_of_ble_eq_true rfl, Nat.le_of_ble_eq_true rfl⟩ rfl (m_readPage Q2 p51 te2 ok1 ps1 fs1 f50 fFr) (fun v9 hC p9 => ?_)
            obtain ⟨SC, x9, e1, Rs⟩ := p9
            subst e1
            have S4 := S2.trans (SC.mono (T := (fun a k => (a = 1085 ∧ (k = 50 ∨ k = 51 ∨ k = 54 ∨ k = 55 ∨ k = 56)) ∨ a = 1126)) (fun a k z => by omega))
            have QC := Q.fr S4 (fun a k z => by omega)
            obtain ⟨g1, ql, qn, qb, qr⟩ := id QC
            have c56 : hC.2.1 1085 56 = op2 (fun a b => a <<< (b &&& 31)) 1 0 := (SC.2.2 _ _ (by omega)).trans h56
            obtain ⟨X9, eX9⟩ : ∃ X9, tnD b n (twd b n (tnD b n s1 8 60 0) 1) 10 90 1 = X9 := ⟨_, rfl⟩
            have hct : X9.2.2.2.2.1 = s1.2.2.2.2.1 ∧ X9.2.2.2.2.2 = s1.2.2.2.2.2 := by rw [← eX9]; exact ⟨ct_page, lv_page⟩
            rw [eX9] at Rs okX0 ePcl0
            have ePcl := ePcl0
            have okX := okX0
            have eSeen : x9 = 0 → op2 (· ||| ·) (sn s.2.2.2.2.1 s.2.2.2.2.2) (op2 (fun a b => a <<< (b &&& 31)) 1 0) = sn X9.2.2.2.2.1 X9.2.2.2.2.2 := fun _ => by rw [hct.1, hct.2, cs1, ls1]; exact so0
            change RN 229 72 _ _ _ 0 0 _
            dsimp only [Option.toList, List.cons_append, List.nil_append]
            refine r_istore_n hm rfl (k := ?_)
            refine r_goto (t := 181) hm rfl (k := ?_)
            refine r_iload_n hm rfl (k := ?_)
            refine r_if_le (t := 187) hm rfl rfl (fun c182 => ?_) (fun c182 => ?_)
            · have x90 : x9 = 0 := by have := Rs.1; have := okX.2.2.1; omega
              obtain ⟨p2, r51, rpn, rsk, rfr⟩ := Rs.2.2 x90
              have pXn := okX.1
              refine r_aload_n hm rfl (k := ?_)
              refine r_callv (j2 := 228) hm rfl rfl rfl rfl rfl rfl (by first | assumption | exact (g1.1 _).trans rfl) (Nat.le_of_ble_eq_true rfl) (Nat.le_of_ble_eq_true rfl) rfl ⟨Nat.le_of_ble_eq_true rfl, Nat.le_of_ble_eq_true rfl, Nat.le_of_ble_eq_true rfl, Nat.le_of_ble_eq_true rfl, Nat.le_of_ble_eq_true rfl⟩ rfl (m_here QC r51 rpn) (fun v9 hD p9 => ?_)
              obtain ⟨SD, d51, e1⟩ := p9
              subst e1
              rw [rsk] at d51
              rw [rsk]
              have S5 := S4.trans (SD.mono (T := (fun a k => (a = 1085 ∧ (k = 50 ∨ k = 51 ∨ k = 54 ∨ k = 55 ∨ k = 56)) ∨ a = 1126)) (fun a k z => by omega))
              have Q5 := Q.fr S5 (fun a k z => by omega)
              obtain ⟨g1, ql, qn, qb, qr⟩ := id Q5
              have d56 : hD.2.1 1085 56 = _ := (SD.2.2 _ _ (by omega)).trans c56
              have d50 : hD.2.1 1085 50 = X9.2.2.1 := (SD.2.2 _ _ (by omega)).trans Rs.2.1
              have hq9 := hr59 (b := b) (n := n) (P := X9.1)
              change RN 229 191 _ _ _ 0 0 _
              dsimp only [Option.toList, List.cons_append, List.nil_append]
              refine r_bipush hm rfl (k := ?_)
              refine r_icmp_eq (t := 206) hm rfl rfl (fun c193 => ?_) (fun c193 => ?_)
              · refine r_aload_n hm rfl (k := ?_)
                refine r_dup hm rfl (k := ?_)
                refine r_getI (hm := hm) (hf := rfl) (hd := rfl) (hs := (by first | assumption | exact (g1.1 _).trans rfl)) (hv := (by first | exact putI_eq | exact (putI_ne (by omega)).trans (by first | exact putI_eq | exact (putI_ne (by omega)).trans (by first | first | assumption | exact g1.2 _ _ _ rfl | exact qb _ (by omega) | exact e54 | exact e51 | exact rfl) | first | assumption | exact g1.2 _ _ _ rfl | exact qb _ (by omega) | exact e54 | exact e51 | exact rfl) | first | assumption | exact g1.2 _ _ _ rfl | exact qb _ (by omega) | exact e54 | exact e51 | exact rfl)) (k := ?_)
                refine r_iconst hm rfl (k := ?_)
                refine r_iadd hm rfl (hr := (by omega)) (k := ?_)
                refine r_putI (hm := hm) (hf := rfl) (hd := rfl) (hs := (by first | assumption | exact (g1.1 _).trans rfl)) (hfin := Or.inl rfl) (hz := fun q9 => absurd q9 (by decide)) (k := ?_)
                refine r_iconst hm rfl (k := ?_)
                refine r_ireturn hm rfl rfl (by rfl) (Nat.le_of_ble_eq_true rfl) (Nat.le_of_ble_eq_true rfl) ?_
                have f9 : X9.2.1 = 0 := by rw [← Rs.1]; exact x90
                have t3 : tkz b n X9.1 = 3 := hq9.mp c193
                have eS : tsm b n X9 = adv b n X9 := by unfold tsm; rw [if_neg (fun z => z t3)]
                have hl : X9.1 < n := by
                  apply Decidable.byContradiction
                  intro z
                  unfold tkz at t3
                  rw [if_neg z] at t3
                  omega
                have eT : tez b n X9.1 = X9.1 + 1 := by unfold tez; rw [if_pos hl, if_neg (by omega)]
                refine ⟨SmL.put S5 (by omega), 0, rfl, ⟨?_, ?_, fun _ => ⟨X9.1 + 1, putI_eq, by omega, ?_, fun k hk => ?_⟩⟩, fun _ => ?_⟩
                · rw [ePcl, eS]; exact f9.symm
                · rw [ePcl, eS, putI_ne (by omega)]; exact d50
                · rw [ePcl, eS, ← eT]; rfl
                · rw [ePcl, eS, putI_ne (by omega), SD.2.2 _ _ (by omega)]; exact rfr k hk
                · rw [ePcl, eS, putI_ne (by omega), d56]; exact eSeen x90
              · refine r_aload_n hm rfl (k := ?_)
                refine r_iconst hm rfl (k := ?_)
                refine r_aload_n hm rfl (k := ?_)
                refine r_getI (hm := hm) (hf := rfl) (hd := rfl) (hs := (by first | assumption | exact (g1.1 _).trans rfl)) (hv := (by first | exact putI_eq | exact (putI_ne (by omega)).trans (by first | exact putI_eq | exact (putI_ne (by omega)).trans (by first | first | assumption | exact g1.2 _ _ _ rfl | exact qb _ (by omega) | exact e54 | exact e51 | exact rfl) | first | assumption | exact g1.2 _ _ _ rfl | exact qb _ (by omega) | exact e54 | exact e51 | exact rfl) | first | assumption | exact g1.2 _ _ _ rfl | exact qb _ (by omega) | exact e54 | exact e51 | exact rfl)) (k := ?_)
                refine r_callv (j2 := 234) hm rfl rfl rfl rfl rfl rfl (by first | assumption | exact (g1.1 _).trans rfl) (Nat.le_of_ble_eq_true rfl) (Nat.le_of_ble_eq_true rfl) rfl ⟨Nat.le_of_ble_eq_true rfl, Nat.le_of_ble_eq_true rfl, Nat.le_of_ble_eq_true rfl, Nat.le_of_ble_eq_true rfl, Nat.le_of_ble_eq_true rfl⟩ rfl (m_fails Q5) (fun v9 h9 p9 => ?_)
                obtain ⟨e1, e2⟩ := p9
                subst e2
                subst e1
                change RN 229 205 _ _ _ 0 0 _
                dsimp only [Option.toList, List.cons_append, List.nil_append]
                refine r_ireturn hm rfl rfl (by rfl) (Nat.le_of_ble_eq_true rfl) (Nat.le_of_ble_eq_true rfl) ?_
                have f9 : X9.2.1 = 0 := by rw [← Rs.1]; exact x90
                have eS : tsm b n X9 = (X9.1, 1, (X9.1 : Int), X9.2.2.2.1, X9.2.2.2.2.1, X9.2.2.2.2.2) := by
                  unfold tsm
                  rw [if_pos (fun z => c193 (hq9.mpr z)), nt_0 f9]
                refine ⟨SmL.put S5 (by omega), 1, rfl, ⟨?_, ?_, fun z => absurd z (by decide)⟩, fun z => absurd z (by decide)⟩
                · rw [ePcl, eS]
                · rw [ePcl, eS]; exact putI_eq
            · refine r_iload_n hm rfl (k := ?_)
              refine r_ireturn hm rfl rfl (by rfl) (Nat.le_of_ble_eq_true rfl) (Nat.le_of_ble_eq_true rfl) ?_
              obtain ⟨t1, t2⟩ := fz_tsm (b := b) (n := n) (s := X9) (by rw [← Rs.1]; omega)
              refine ⟨S4, x9, rfl, ⟨?_, ?_, fun z => by omega⟩, fun z => by omega⟩
              · rw [ePcl, t1]; exact Rs.1
              · rw [ePcl, t2]; exact Rs.2.1
        · refine r_aload_n hm rfl (k := ?_)
          refine r_iconst hm rfl (k := ?_)
          refine r_aload_n hm rfl (k := ?_)
          refine r_getI (hm := hm) (hf := rfl) (hd := rfl) (hs := (by first | assumption | exact (g1.1 _).trans rfl)) (hv := (by first | exact putI_eq | exact (putI_ne (by omega)).trans (by first | exact putI_eq | exact (putI_ne (by omega)).trans (by first | first | assumption | exact g1.2 _ _ _ rfl | exact qb _ (by omega) | exact e54 | exact e51 | exact rfl) | first | assumption | exact g1.2 _ _ _ rfl | exact qb _ (by omega) | exact e54 | exact e51 | exact rfl) | first | assumption | exact g1.2 _ _ _ rfl | exact qb _ (by omega) | exact e54 | exact e51 | exact rfl)) (k := ?_)
          refine r_callv (j2 := 234) hm rfl rfl rfl rfl rfl rfl (by first | assumption | exact (g1.1 _).trans rfl) (Nat.le_of_ble_eq_true rfl) (Nat.le_of_ble_eq_true rfl) rfl ⟨Nat.le_of_ble_eq_true rfl, Nat.le_of_ble_eq_true rfl, Nat.le_of_ble_eq_true rfl, Nat.le_of_ble_eq_true rfl, Nat.le_of_ble_eq_true rfl⟩ rfl (m_fails Q1) (fun v9 h9 p9 => ?_)
          obtain ⟨e1, e2⟩ := p9
          subst e2
          subst e1
          change RN 229 46 _ _ _ 0 0 _
          dsimp only [Option.toList, List.cons_append, List.nil_append]
          refine r_ireturn hm rfl rfl (by rfl) (Nat.le_of_ble_eq_true rfl) (Nat.le_of_ble_eq_true rfl) ?_
          have ct1 : s.2.2.2.2.1 0 ≠ 0 := by omega
          have eB : bgc b n s 0 = adv b n (stC (s.1, 3, (s.1 : Int), s.2.2.2.1, s.2.2.2.2.1, s.2.2.2.2.2) 0 1) := by unfold bgc; rw [if_pos ct1, nt_0 f0]
          obtain ⟨g1_, g2_⟩ : (bgc b n s 0).2.1 = 3 ∧ (bgc b n s 0).2.2.1 = (s.1 : Int) := by rw [eB]; exact ⟨rfl, rfl⟩
          obtain ⟨a1, a2⟩ := fz_tnD (b := b) (n := n) (s := bgc b n s 0) (lo := 8) (hi := 60) (k := 0) (by rw [g1_]; decide)
          obtain ⟨a3, a4⟩ := fz_twd (b := b) (n := n) (s := tnD b n (bgc b n s 0) 8 60 0) (i := 1) (by rw [a1, g1_]; decide)
          obtain ⟨a5, a6⟩ := fz_tnD (b := b) (n := n) (s := twd b n (tnD b n (bgc b n s 0) 8 60 0) 1) (lo := 10) (hi := 90) (k := 1) (by rw [a3, a1, g1_]; decide)
          have gA : (tnD b n (twd b n (tnD b n (bgc b n s 0) 8 60 0) 1) 10 90 1).2.1 = 3 ∧ (tnD b n (twd b n (tnD b n (bgc b n s 0) 8 60 0) 1) 10 90 1).2.2.1 = (s.1 : Int) := ⟨by rw [a5, a3, a1, g1_], by rw [a6, a4, a2, g2_]⟩
          obtain ⟨t1, t2⟩ := fz_tsm (b := b) (n := n) (s := tnD b n (twd b n (tnD b n (bgc b n s 0) 8 60 0) 1) 10 90 1) (by rw [gA.1]; decide)
          refine ⟨SmL.put S1 (by omega), 3, rfl, ⟨?_, ?_, fun z => absurd z (by decide)⟩, fun z => absurd z (by decide)⟩
          · rw [ePcl0, t1, gA.1]
          · rw [ePcl0, t2, gA.2]; exact putI_eq
    · exfalso; omega
  · have ePcl0 : pcl b n s = tsm b n (psl b n (adv b n s)) := by unfold pcl; rw [if_neg (by rw [i0]; decide), if_pos i2]
    have tk1 := isW_tk i2
    have okX0 : okR b n (psl b n (adv b n s)) := okR.m_psl ok.m_adv
    rw [(wE_tk ok.1).1 tk1] at e54
    refine r_iload_n hm rfl (k := ?_)
    refine r_if_ge (t := 23) hm rfl rfl (fun c10 => ?_) (fun c10 => ?_)
    · refine r_iload_n hm rfl (k := ?_)
      refine r_iconst hm rfl (k := ?_)
      refine r_icmp_eq (t := 47) hm rfl rfl (fun c25 => ?_) (fun c25 => ?_)
      · refine r_aload_n hm rfl (k := ?_)
        refine r_aload_n hm rfl (k := ?_)
        refine r_getI (hm := hm) (hf := rfl) (hd := rfl) (hs := (by first | assumption | exact (g1.1 _).trans rfl)) (hv := (by first | exact putI_eq | exact (putI_ne (by omega)).trans (by first | exact putI_eq | exact (putI_ne (by omega)).trans (by first | first | assumption | exact g1.2 _ _ _ rfl | exact qb _ (by omega) | exact e54 | exact e51 | exact rfl) | first | assumption | exact g1.2 _ _ _ rfl | exact qb _ (by omega) | exact e54 | exact e51 | exact rfl) | first | assumption | exact g1.2 _ _ _ rfl | exact qb _ (by omega) | exact e54 | exact e51 | exact rfl)) (k := ?_)
        refine r_putI (hm := hm) (hf := rfl) (hd := rfl) (hs := (by first | assumption | exact (g1.1 _).trans rfl)) (hfin := Or.inl rfl) (hz := fun q9 => absurd q9 (by decide)) (k := ?_)
        refine r_iconst hm rfl (k := ?_)
        refine r_istore_n hm rfl (k := ?_)
        refine r_aload_n hm rfl (k := ?_)
        refine r_iconst hm rfl (k := ?_)
        refine r_iload_n hm rfl (k := ?_)
        refine r_ishl hm rfl (k := ?_)
        refine r_putI (hm := hm) (hf := rfl) (hd := rfl) (hs := (by first | assumption | exact (g1.1 _).trans rfl)) (hfin := Or.inl rfl) (hz := fun q9 => absurd q9 (by decide)) (k := ?_)
        have S2 : SmL (fun a k => (a = 1085 ∧ (k = 50 ∨ k = 51 ∨ k = 54 ∨ k = 55 ∨ k = 56)) ∨ a = 1126) h (putI (putI hA 1085 51 ((tez b n s.1 : Nat) : Int)) 1085 56 (op2 (fun a b => a <<< (b &&& 31)) 1 1)) := SmL.put (SmL.put S1 (by omega)) (by omega)
        have Q2 := Q.fr S2 (fun a k z => by omega)
        obtain ⟨g1, ql, qn, qb, qr⟩ := id Q2
        have p51 : (putI (putI hA 1085 51 ((tez b n s.1 : Nat) : Int)) 1085 56 (op2 (fun a b => a <<< (b &&& 31)) 1 1)).2.1 1085 51 = ((tez b n s.1 : Nat) : Int) := by rw [putI_ne (by omega), putI_eq]
        obtain ⟨s1, es1⟩ : ∃ s1, (adv b n s) = s1 := ⟨_, rfl⟩
        rw [es1] at ePcl0 okX0
        have ok1 : okR b n s1 := by rw [← es1]; exact ok.m_adv
        have ps1 : sk b n (tez b n s.1) = s1.1 := by rw [← es1]; rfl
        have fs1 : s1.2.1 = 0 := by rw [← es1]; exact f0
        have as1 : s1.2.2.1 = s.2.2.1 := by rw [← es1]; rfl
        have ds1 : s1.2.2.2.1 = s.2.2.2.1 := by rw [← es1]; rfl
        have cs1 : s1.2.2.2.2.1 = s.2.2.2.2.1 := by rw [← es1]; rfl
        have ls1 : s1.2.2.2.2.2 = s.2.2.2.2.2 := by rw [← es1]; rfl
        have f50 : (putI (putI hA 1085 51 ((tez b n s.1 : Nat) : Int)) 1085 56 (op2 (fun a b => a <<< (b &&& 31)) 1 1)).2.1 1085 50 = s1.2.2.1 := by rw [putI_ne (by omega), putI_ne (by omega), as1]; exact a50
        have fFr : ∀ k, k < 13 → (putI (putI hA 1085 51 ((tez b n s.1 : Nat) : Int)) 1085 56 (op2 (fun a b => a <<< (b &&& 31)) 1 1)).2.1 1126 k = s1.2.2.2.1 k := fun k hk => by rw [putI_ne (by omega), putI_ne (by omega), ds1]; exact aFr k hk
        have h56 : (putI (putI hA 1085 51 ((tez b n s.1 : Nat) : Int)) 1085 56 (op2 (fun a b => a <<< (b &&& 31)) 1 1)).2.1 1085 56 = op2 (fun a b => a <<< (b &&& 31)) 1 1 := putI_eq
        refine r_iload_n hm rfl (k := ?_)
        refine r_if_ne (t := 76) hm rfl rfl (fun c65 => ?_) (fun c65 => ?_)
        · refine r_iload_n hm rfl (k := ?_)
          refine r_iconst hm rfl (k := ?_)
          refine r_icmp_ne (t := 103) hm rfl rfl (fun c78 => ?_) (fun c78 => ?_)
          · exfalso; omega
          · have hpr := nxz_prev (b := b) ok.1 tk1
            have hps : s1.1 = nxz b n s.1 := ps1.symm
            rw [← hps] at hpr
            rw [← cs1, ← ls1]
            refine r_aload_n hm rfl (k := ?_)
            refine r_iload_n hm rfl (k := ?_)
            refine r_callv (j2 := 238) hm rfl rfl rfl rfl rfl rfl (by first | assumption | exact (g1.1 _).trans rfl) (Nat.le_of_ble_eq_true rfl) (Nat.le_of_ble_eq_true rfl) rfl ⟨Nat.le_of_ble_eq_true rfl, Nat.le_of_ble_eq_true rfl, Nat.le_of_ble_eq_true rfl, Nat.le_of_ble_eq_true rfl, Nat.le_of_ble_eq_true rfl⟩ rfl (m_readLevel Q2 p51 te2 ok1 ps1 fs1 f50 fFr hpr) (fun v9 hC0 p9 => ?_)
            obtain ⟨SC, x9, e1, Rs0, hu9⟩ := p9
            subst e1
            have S3 := S2.trans (SC.mono (T := (fun a k => (a = 1085 ∧ (k = 50 ∨ k = 51 ∨ k = 54 ∨ k = 55 ∨ k = 56)) ∨ a = 1126)) (fun a k z => by omega))
            have Q3 := Q.fr S3 (fun a k z => by omega)
            obtain ⟨g1, ql, qn, qb, qr⟩ := id Q3
            change RN 229 86 _ _ _ 0 0 _
            dsimp only [Option.toList, List.cons_append, List.nil_append]
            refine r_istore_n hm rfl (k := ?_)
            refine r_aload_n hm rfl (k := ?_)
            refine r_iconst hm rfl (k := ?_)
            refine r_bipush hm rfl (k := ?_)
            refine r_aload_n hm rfl (k := ?_)
            refine r_getI (hm := hm) (hf := rfl) (hd := rfl) (hs := (by first | assumption | exact (g1.1 _).trans rfl)) (hv := (by first | exact putI_eq | exact (putI_ne (by omega)).trans (by first | exact putI_eq | exact (putI_ne (by omega)).trans (by first | first | assumption | exact g1.2 _ _ _ rfl | exact qb _ (by omega) | exact e54 | exact e51 | exact rfl) | first | assumption | exact g1.2 _ _ _ rfl | exact qb _ (by omega) | exact e54 | exact e51 | exact rfl) | first | assumption | exact g1.2 _ _ _ rfl | exact qb _ (by omega) | exact e54 | exact e51 | exact rfl)) (k := ?_)
            refine r_iaddw hm rfl (k := ?_)
            refine r_ishl hm rfl (k := ?_)
            refine r_putI (hm := hm) (hf := rfl) (hd := rfl) (hs := (by first | assumption | exact (g1.1 _).trans rfl)) (hfin := Or.inl rfl) (hz := fun q9 => absurd q9 (by decide)) (k := ?_)
            refine RN.abs (fun hC => SmL (fun a k => (a = 1085 ∧ (k = 50 ∨ k = 51 ∨ k = 54 ∨ k = 55 ∨ k = 56)) ∨ a = 1126) h hC ∧ RsM b n hC x9 (psl b n s1) ∧ hC.2.1 1085 56 = op2 (fun a b => a <<< (b &&& 31)) 1 (op2 (· + ·) 8 (hC0.2.1 1085 55))) ⟨SmL.put S3 (by omega), ⟨Rs0.1, by rw [putI_ne (by omega)]; exact Rs0.2.1, fun z => ?_⟩, putI_eq⟩ (fun hC H9 => ?_)
            · obtain ⟨p2, r1, r2, r3, r4⟩ := Rs0.2.2 z
              exact ⟨p2, by rw [putI_ne (by omega)]; exact r1, r2, r3, fun k hk => by rw [putI_ne (by omega)]; exact r4 k hk⟩
            obtain ⟨S4, Rs, c56⟩ := H9
            have QC := Q.fr S4 (fun a k z => by omega)
            obtain ⟨g1, ql, qn, qb, qr⟩ := id QC
            obtain ⟨X9, eX9⟩ : ∃ X9, psl b n s1 = X9 := ⟨_, rfl⟩
            rw [eX9] at Rs okX0 ePcl0 hu9
            have ePcl := ePcl0
            have okX := okX0
            have eSeen : x9 = 0 → op2 (· ||| ·) (sn s.2.2.2.2.1 s.2.2.2.2.2) (op2 (fun a b => a <<< (b &&& 31)) 1 (op2 (· + ·) 8 (hC0.2.1 1085 55))) = sn X9.2.2.2.2.1 X9.2.2.2.2.2 := fun z => by
              obtain ⟨u, u1, u2, u3, u4, u5⟩ := hu9 z
              rw [u1, u4, u5, cs1, ls1, op2_add (by omega) (by omega)]
              exact (sn_lv ok.2.2.2.2.2.1 ok.2.2.2.2.2.2 ⟨u2, u3⟩).2
            refine r_goto (t := 181) hm rfl (k := ?_)
            refine r_iload_n hm rfl (k := ?_)
            refine r_if_le (t := 187) hm rfl rfl (fun c182 => ?_) (fun c182 => ?_)
            · have x90 : x9 = 0 := by have := Rs.1; have := okX.2.2.1; omega
              obtain ⟨p2, r51, rpn, rsk, rfr⟩ := Rs.2.2 x90
              have pXn := okX.1
              refine r_aload_n hm rfl (k := ?_)
              refine r_callv (j2 := 228) hm rfl rfl rfl rfl rfl rfl (by first | assumption | exact (g1.1 _).trans rfl) (Nat.le_of_ble_eq_true rfl) (Nat.le_of_ble_eq_true rfl) rfl ⟨Nat.le_of_ble_eq_true rfl, Nat.le_of_ble_eq_true rfl, Nat.le_of_ble_eq_true rfl, Nat.le_of_ble_eq_true rfl, Nat.le_of_ble_eq_true rfl⟩ rfl (m_here QC r51 rpn) (fun v9 hD p9 => ?_)
              obtain ⟨SD, d51, e1⟩ := p9
              subst e1
              rw [rsk] at d51
              rw [rsk]
              have S5 := S4.trans (SD.mono (T := (fun a k => (a = 1085 ∧ (k = 50 ∨ k = 51 ∨ k = 54 ∨ k = 55 ∨ k = 56)) ∨ a = 1126)) (fun a k z => by omega))
              have Q5 := Q.fr S5 (fun a k z => by omega)
              obtain ⟨g1, ql, qn, qb, qr⟩ := id Q5
              have d56 : hD.2.1 1085 56 = _ := (SD.2.2 _ _ (by omega)).trans c56
              have d50 : hD.2.1 1085 50 = X9.2.2.1 := (SD.2.2 _ _ (by omega)).trans Rs.2.1
              have hq9 := hr59 (b := b) (n := n) (P := X9.1)
              change RN 229 191 _ _ _ 0 0 _
              dsimp only [Option.toList, List.cons_append, List.nil_append]
              refine r_bipush hm rfl (k := ?_)
              refine r_icmp_eq (t := 206) hm rfl rfl (fun c193 => ?_) (fun c193 => ?_)
              · refine r_aload_n hm rfl (k := ?_)
                refine r_dup hm rfl (k := ?_)
                refine r_getI (hm := hm) (hf := rfl) (hd := rfl) (hs := (by first | assumption | exact (g1.1 _).trans rfl)) (hv := (by first | exact putI_eq | exact (putI_ne (by omega)).trans (by first | exact putI_eq | exact (putI_ne (by omega)).trans (by first | first | assumption | exact g1.2 _ _ _ rfl | exact qb _ (by omega) | exact e54 | exact e51 | exact rfl) | first | assumption | exact g1.2 _ _ _ rfl | exact qb _ (by omega) | exact e54 | exact e51 | exact rfl) | first | assumption | exact g1.2 _ _ _ rfl | exact qb _ (by omega) | exact e54 | exact e51 | exact rfl)) (k := ?_)
                refine r_iconst hm rfl (k := ?_)
                refine r_iadd hm rfl (hr := (by omega)) (k := ?_)
                refine r_putI (hm := hm) (hf := rfl) (hd := rfl) (hs := (by first | assumption | exact (g1.1 _).trans rfl)) (hfin := Or.inl rfl) (hz := fun q9 => absurd q9 (by decide)) (k := ?_)
                refine r_iconst hm rfl (k := ?_)
                refine r_ireturn hm rfl rfl (by rfl) (Nat.le_of_ble_eq_true rfl) (Nat.le_of_ble_eq_true rfl) ?_
                have f9 : X9.2.1 = 0 := by rw [← Rs.1]; exact x90
                have t3 : tkz b n X9.1 = 3 := hq9.mp c193
                have eS : tsm b n X9 = adv b n X9 := by unfold tsm; rw [if_neg (fun z => z t3)]
                have hl : X9.1 < n := by
                  apply Decidable.byContradiction
                  intro z
                  unfold tkz at t3
                  rw [if_neg z] at t3
                  omega
                have eT : tez b n X9.1 = X9.1 + 1 := by unfold tez; rw [if_pos hl, if_neg (by omega)]
                refine ⟨SmL.put S5 (by omega), 0, rfl, ⟨?_, ?_, fun _ => ⟨X9.1 + 1, putI_eq, by omega, ?_, fun k hk => ?_⟩⟩, fun _ => ?_⟩
                · rw [ePcl, eS]; exact f9.symm
                · rw [ePcl, eS, putI_ne (by omega)]; exact d50
                · rw [ePcl, eS, ← eT]; rfl
                · rw [ePcl, eS, putI_ne (by omega), SD.2.2 _ _ (by omega)]; exact rfr k hk
                · rw [ePcl, eS, putI_ne (by omega), d56, cs1, ls1]; exact eSeen x90
              · refine r_aload_n hm rfl (k := ?_)
                refine r_iconst hm rfl (k := ?_)
                refine r_aload_n hm rfl (k := ?_)
                refine r_getI (hm := hm) (hf := rfl) (hd := rfl) (hs := (by first | assumption | exact (g1.1 _).trans rfl)) (hv := (by first | exact putI_eq | exact (putI_ne (by omega)).trans (by first | exact putI_eq | exact (putI_ne (by omega)).trans (by first | first | assumption | exact g1.2 _ _ _ rfl | exact qb _ (by omega) | exact e54 | exact e51 | exact rfl) | first | assumption | exact g1.2 _ _ _ rfl | exact qb _ (by omega) | exact e54 | exact e51 | exact rfl) | first | assumption | exact g1.2 _ _ _ rfl | exact qb _ (by omega) | exact e54 | exact e51 | exact rfl)) (k := ?_)
                refine r_callv (j2 := 234) hm rfl rfl rfl rfl rfl rfl (by first | assumption | exact (g1.1 _).trans rfl) (Nat.le_of_ble_eq_true rfl) (Nat.le_of_ble_eq_true rfl) rfl ⟨Nat.le_of_ble_eq_true rfl, Nat.le_of_ble_eq_true rfl, Nat.le_of_ble_eq_true rfl, Nat.le_of_ble_eq_true rfl, Nat.le_of_ble_eq_true rfl⟩ rfl (m_fails Q5) (fun v9 h9 p9 => ?_)
                obtain ⟨e1, e2⟩ := p9
                subst e2
                subst e1
                change RN 229 205 _ _ _ 0 0 _
                dsimp only [Option.toList, List.cons_append, List.nil_append]
                refine r_ireturn hm rfl rfl (by rfl) (Nat.le_of_ble_eq_true rfl) (Nat.le_of_ble_eq_true rfl) ?_
                have f9 : X9.2.1 = 0 := by rw [← Rs.1]; exact x90
                have eS : tsm b n X9 = (X9.1, 1, (X9.1 : Int), X9.2.2.2.1, X9.2.2.2.2.1, X9.2.2.2.2.2) := by
                  unfold tsm
                  rw [if_pos (fun z => c193 (hq9.mpr z)), nt_0 f9]
                refine ⟨SmL.put S5 (by omega), 1, rfl, ⟨?_, ?_, fun z => absurd z (by decide)⟩, fun z => absurd z (by decide)⟩
                · rw [ePcl, eS]
                · rw [ePcl, eS]; exact putI_eq
            · refine r_iload_n hm rfl (k := ?_)
              refine r_ireturn hm rfl rfl (by rfl) (Nat.le_of_ble_eq_true rfl) (Nat.le_of_ble_eq_true rfl) ?_
              obtain ⟨t1, t2⟩ := fz_tsm (b := b) (n := n) (s := X9) (by rw [← Rs.1]; omega)
              refine ⟨S4, x9, rfl, ⟨?_, ?_, fun z => by omega⟩, fun z => by omega⟩
              · rw [ePcl, t1]; exact Rs.1
              · rw [ePcl, t2]; exact Rs.2.1
        · exfalso; omega
      · exfalso; omega
    · exfalso; omega
  · have ePcl0 : pcl b n s = tsm b n (tcD b n (bgc b n s 1) 4 10) := by unfold pcl; rw [if_neg (by rw [i0]; decide), if_neg (by rw [i2]; decide), if_pos i3]
    have tk1 := isW_tk i3
    have okX0 : okR b n (tcD b n (bgc b n s 1) 4 10) := okR.m_tcD (okR.m_bgc ok) (by omega)
    rw [(wE_tk ok.1).1 tk1] at e54
    refine r_iload_n hm rfl (k := ?_)
    refine r_if_ge (t := 23) hm rfl rfl (fun c10 => ?_) (fun c10 => ?_)
    · refine r_iload_n hm rfl (k := ?_)
      refine r_iconst hm rfl (k := ?_)
      refine r_icmp_eq (t := 47) hm rfl rfl (fun c25 => ?_) (fun c25 => ?_)
      · exfalso; omega
      · refine r_iload_n hm rfl (k := ?_)
        refine r_iload_n hm rfl (k := ?_)
        refine r_ishr hm rfl (k := ?_)
        refine r_iconst hm rfl (k := ?_)
        refine r_iand hm rfl (k := ?_)
        show RN 229 33 _ (.inl (sBt (sn s.2.2.2.2.1 s.2.2.2.2.2) 2) :: _) _ _ _ _
        rw [sb1]
        refine r_iconst hm rfl (k := ?_)
        refine r_icmp_ne (t := 47) hm rfl rfl (fun c34 => ?_) (fun c34 => ?_)
        · refine r_aload_n hm rfl (k := ?_)
          refine r_aload_n hm rfl (k := ?_)
          refine r_getI (hm := hm) (hf := rfl) (hd := rfl) (hs := (by first | assumption | exact (g1.1 _).trans rfl)) (hv := (by first | exact putI_eq | exact (putI_ne (by omega)).trans (by first | exact putI_eq | exact (putI_ne (by omega)).trans (by first | first | assumption | exact g1.2 _ _ _ rfl | exact qb _ (by omega) | exact e54 | exact e51 | exact rfl) | first | assumption | exact g1.2 _ _ _ rfl | exact qb _ (by omega) | exact e54 | exact e51 | exact rfl) | first | assumption | exact g1.2 _ _ _ rfl | exact qb _ (by omega) | exact e54 | exact e51 | exact rfl)) (k := ?_)
          refine r_putI (hm := hm) (hf := rfl) (hd := rfl) (hs := (by first | assumption | exact (g1.1 _).trans rfl)) (hfin := Or.inl rfl) (hz := fun q9 => absurd q9 (by decide)) (k := ?_)
          refine r_iconst hm rfl (k := ?_)
          refine r_istore_n hm rfl (k := ?_)
          refine r_aload_n hm rfl (k := ?_)
          refine r_iconst hm rfl (k := ?_)
          refine r_iload_n hm rfl (k := ?_)
          refine r_ishl hm rfl (k := ?_)
          refine r_putI (hm := hm) (hf := rfl) (hd := rfl) (hs := (by first | assumption | exact (g1.1 _).trans rfl)) (hfin := Or.inl rfl) (hz := fun q9 => absurd q9 (by decide)) (k := ?_)
          have S2 : SmL (fun a k => (a = 1085 ∧ (k = 50 ∨ k = 51 ∨ k = 54 ∨ k = 55 ∨ k = 56)) ∨ a = 1126) h (putI (putI hA 1085 51 ((tez b n s.1 : Nat) : Int)) 1085 56 (op2 (fun a b => a <<< (b &&& 31)) 1 2)) := SmL.put (SmL.put S1 (by omega)) (by omega)
          have Q2 := Q.fr S2 (fun a k z => by omega)
          obtain ⟨g1, ql, qn, qb, qr⟩ := id Q2
          have p51 : (putI (putI hA 1085 51 ((tez b n s.1 : Nat) : Int)) 1085 56 (op2 (fun a b => a <<< (b &&& 31)) 1 2)).2.1 1085 51 = ((tez b n s.1 : Nat) : Int) := by rw [putI_ne (by omega), putI_eq]
          have ct0 : s.2.2.2.2.1 1 = 0 := by have := ok.2.2.2.2.2.1 1; omega
          have eB : bgc b n s 1 = adv b n (stC s 1 1) := by unfold bgc; rw [if_neg (fun z => z ct0)]
          obtain ⟨s1, es1⟩ : ∃ s1, (bgc b n s 1) = s1 := ⟨_, rfl⟩
          rw [es1] at ePcl0 okX0
          have ok1 : okR b n s1 := by rw [← es1]; exact okR.m_bgc ok
          have ps1 : sk b n (tez b n s.1) = s1.1 := by rw [← es1, eB]; rfl
          have fs1 : s1.2.1 = 0 := by rw [← es1, eB]; exact f0
          have as1 : s1.2.2.1 = s.2.2.1 := by rw [← es1, eB]; rfl
          have ds1 : s1.2.2.2.1 = s.2.2.2.1 := by rw [← es1, eB]; rfl
          have cs1 : s1.2.2.2.2.1 = upf s.2.2.2.2.1 1 1 := by rw [← es1, eB]; rfl
          have ls1 : s1.2.2.2.2.2 = s.2.2.2.2.2 := by rw [← es1, eB]; rfl
          have f50 : (putI (putI hA 1085 51 ((tez b n s.1 : Nat) : Int)) 1085 56 (op2 (fun a b => a <<< (b &&& 31)) 1 2)).2.1 1085 50 = s1.2.2.1 := by rw [putI_ne (by omega), putI_ne (by omega), as1]; exact a50
          have fFr : ∀ k, k < 13 → (putI (putI hA 1085 51 ((tez b n s.1 : Nat) : Int)) 1085 56 (op2 (fun a b => a <<< (b &&& 31)) 1 2)).2.1 1126 k = s1.2.2.2.1 k := fun k hk => by rw [putI_ne (by omega), putI_ne (by omega), ds1]; exact aFr k hk
          have h56 : (putI (putI hA 1085 51 ((tez b n s.1 : Nat) : Int)) 1085 56 (op2 (fun a b => a <<< (b &&& 31)) 1 2)).2.1 1085 56 = op2 (fun a b => a <<< (b &&& 31)) 1 2 := putI_eq
          refine r_iload_n hm rfl (k := ?_)
          refine r_if_ne (t := 76) hm rfl rfl (fun c65 => ?_) (fun c65 => ?_)
          · refine r_iload_n hm rfl (k := ?_)
            refine r_iconst hm rfl (k := ?_)
            refine r_icmp_ne (t := 103) hm rfl rfl (fun c78 => ?_) (fun c78 => ?_)
            · refine r_aload_n hm rfl (k := ?_)
              refine r_lconst hm rfl (k := ?_)
              refine r_bipush hm rfl (k := ?_)
              refine r_bipush hm rfl (k := ?_)
              refine r_iconst hm rfl (k := ?_)
              refine r_iconst hm rfl (k := ?_)
              refine r_calls (j2 := 232) hm rfl rfl rfl rfl rfl rfl (Nat.le_of_ble_eq_true rfl) (Nat.le_of_ble_eq_true rfl) rfl ⟨Nat.le_of_ble_eq_true rfl, Nat.le_of_ble_eq_true rfl, Nat.le_of_ble_eq_true rfl, Nat.le_of_ble_eq_true rfl, Nat.le_of_ble_eq_true rfl⟩ rfl (m_codeX (x := Int64.ofInt (cdW 9)) (by decide +kernel)) (fun v9 h9 p9 => ?_)
              obtain ⟨e1, e2⟩ := p9
              subst e2
              replace e1 := e1.symm
              subst e1
              change RN 229 114 _ _ _ 0 0 _
              dsimp only [Option.toList, List.cons_append, List.nil_append]
              refine r_iload_n hm rfl (k := ?_)
              refine r_iconst hm rfl (k := ?_)
              refine r_icmp_ne (t := 133) hm rfl rfl (fun c116 => ?_) (fun c116 => ?_)
              · refine r_lconst hm rfl (k := ?_)
                refine r_bipush hm rfl (k := ?_)
                refine r_bipush hm rfl (k := ?_)
                refine r_bipush hm rfl (k := ?_)
                refine r_bipush hm rfl (k := ?_)
                refine r_calls (j2 := 232) hm rfl rfl rfl rfl rfl rfl (Nat.le_of_ble_eq_true rfl) (Nat.le_of_ble_eq_true rfl) rfl ⟨Nat.le_of_ble_eq_true rfl, Nat.le_of_ble_eq_true rfl, Nat.le_of_ble_eq_true rfl, Nat.le_of_ble_eq_true rfl, Nat.le_of_ble_eq_true rfl⟩ rfl (m_codeX (x := Int64.ofInt (cdW 4)) (by decide +kernel)) (fun v9 h9 p9 => ?_)
                obtain ⟨e1, e2⟩ := p9
                subst e2
                replace e1 := e1.symm
                subst e1
                change RN 229 145 _ _ _ 0 0 _
                dsimp only [Option.toList, List.cons_append, List.nil_append]
                refine r_ldc2 hm rfl (hd := rfl) (k := ?_)
                refine r_callv (j2 := 237) hm rfl rfl rfl rfl rfl rfl (by first | assumption | exact (g1.1 _).trans rfl) (Nat.le_of_ble_eq_true rfl) (Nat.le_of_ble_eq_true rfl) rfl ⟨Nat.le_of_ble_eq_true rfl, Nat.le_of_ble_eq_true rfl, Nat.le_of_ble_eq_true rfl, Nat.le_of_ble_eq_true rfl, Nat.le_of_ble_eq_true rfl⟩ rfl (m_oneX Q2 p51 te2 (a1 := cdW 9) (a2 := cdW 4) (a3 := -1) rfl rfl (by decide +kernel) (c9 9 (by omega)) (c9 4 (by omega)) (by omega)) (fun v9 hB_ p9 => ?_)
                obtain ⟨SB, e51, e1⟩ := p9
                subst e1
                rw [ps1] at e51
                rw [ps1]
                have ps1n := ok1.1
                have wr1 := wC_rng (b := b) ps1n
                rw [oneK2 wr1.1 (wd_let (i := 9) (by omega)).2.1 (wd_let (i := 4) (by omega)).2.1] at e51
                rw [oneK2 wr1.1 (wd_let (i := 9) (by omega)).2.1 (wd_let (i := 4) (by omega)).2.1]
                have S3 := S2.trans (SB.mono (T := (fun a k => (a = 1085 ∧ (k = 50 ∨ k = 51 ∨ k = 54 ∨ k = 55 ∨ k = 56)) ∨ a = 1126)) (fun a k z => by omega))
                have Q3 := Q.fr S3 (fun a k z => by omega)
                obtain ⟨g1, ql, qn, qb, qr⟩ := id Q3
                have w9i := wC_is (b := b) (i := 9) ps1n (by omega)
                have wXi := wC_is (b := b) (i := 4) ps1n (by omega)
                have nd : cdW 9 ≠ cdW 4 := by decide +kernel
                have b50 : hB_.2.1 1085 50 = s1.2.2.1 := (SB.2.2 _ _ (by omega)).trans f50
                have bFr : ∀ k, k < 13 → hB_.2.1 1126 k = s1.2.2.2.1 k := fun k hk => (SB.2.2 _ _ (by omega)).trans (fFr k hk)
                have b56 : hB_.2.1 1085 56 = op2 (fun a b => a <<< (b &&& 31)) 1 2 := (SB.2.2 _ _ (by omega)).trans h56
                have hck : ((if wC b n s1.1 = cdW 9 then (0 : Int) else if wC b n s1.1 = cdW 4 then 1 else -1) = -1 ∧ tch b n s1 4 = (nt s1 1, 0)) ∨ (0 ≤ (if wC b n s1.1 = cdW 9 then (0 : Int) else if wC b n s1.1 = cdW 4 then 1 else -1) ∧ (if wC b n s1.1 = cdW 9 then (0 : Int) else if wC b n s1.1 = cdW 4 then 1 else -1) ≤ 1 ∧ tch b n s1 4 = (adv b n s1, if wC b n s1.1 = cdW 9 then (0 : Int) else if wC b n s1.1 = cdW 4 then 1 else -1) ∧ tkz b n s1.1 = 1) := by
                  unfold tch twd
                  by_cases z9 : wC b n s1.1 = cdW 9
                  · right
                    have jX : ¬ isW b n s1.1 4 = true := fun z => nd (by rw [← z9, wXi.mpr z])
                    rw [if_pos z9, if_neg jX, if_pos (w9i.mp z9)]
                    exact ⟨by omega, by omega, rfl, isW_tk (w9i.mp z9)⟩
                  · have j9 : ¬ isW b n s1.1 9 = true := fun z => z9 (w9i.mpr z)
                    by_cases zX : wC b n s1.1 = cdW 4
                    · right
                      rw [if_neg z9, if_pos zX, if_pos (wXi.mp zX)]
                      exact ⟨by omega, by omega, rfl, isW_tk (wXi.mp zX)⟩
                    · left
                      rw [if_neg z9, if_neg zX, if_neg (fun z => zX (wXi.mpr z)), if_neg j9]
                      exact ⟨rfl, rfl⟩
                obtain ⟨y9, ey9⟩ : ∃ y9, (if wC b n s1.1 = cdW 9 then (0 : Int) else if wC b n s1.1 = cdW 4 then 1 else -1) = y9 := ⟨_, rfl⟩
                rw [ey9] at e51 hck
                rw [ey9]
                have ebody : tcD b n s1 4 10 = stD (tch b n s1 4).1 10 (tch b n s1 4).2 := rfl
                change RN 229 151 _ _ _ 0 0 _
                dsimp only [Option.toList, List.cons_append, List.nil_append]
                refine r_istore hm rfl (k := ?_)
                refine r_iload hm rfl (k := ?_)
                refine r_if_ge (t := 168) hm rfl rfl (fun c155 => ?_) (fun c155 => ?_)
                · refine r_aload_n hm rfl (k := ?_)
                  refine r_getR (hm := hm) (hf := rfl) (hd := rfl) (hs := (by first | assumption | exact (g1.1 _).trans rfl)) (hv := (by first | exact putI_eq | exact (putI_ne (by omega)).trans (by first | exact putI_eq | exact (putI_ne (by omega)).trans (by first | first | assumption | exact g1.2 _ _ _ rfl | exact qb _ (by omega) | exact e54 | exact e51 | exact rfl) | first | assumption | exact g1.2 _ _ _ rfl | exact qb _ (by omega) | exact e54 | exact e51 | exact rfl) | first | assumption | exact g1.2 _ _ _ rfl | exact qb _ (by omega) | exact e54 | exact e51 | exact rfl)) (k := ?_)
                  refine r_bipush hm rfl (k := ?_)
                  refine r_iload_n hm rfl (k := ?_)
                  refine r_iadd hm rfl (hr := (by omega)) (k := ?_)
                  refine r_iconst hm rfl (k := ?_)
                  refine r_isub hm rfl (hr := (by omega)) (k := ?_)
                  refine r_iload hm rfl (k := ?_)
                  refine r_iast (hm := hm) (hf := rfl) (h28 := (by omega)) (hs := (by first | assumption | exact (g1.1 _).trans rfl)) (kk := 10) (hi := by omega) (hn := (by omega)) (k := ?_)
                  obtain ⟨y1, y2, eF, tkn⟩ : 0 ≤ y9 ∧ y9 ≤ 1 ∧ tch b n s1 4 = (adv b n s1, y9) ∧ tkz b n s1.1 = 1 := by
                    rcases hck with z | z
                    · exfalso; omega
                    · exact z
                  rw [if_neg (by omega), (wE_tk ps1n).1 tkn] at e51
                  obtain ⟨te5, te6, te7⟩ := tez_rng (b := b) ps1n
                  rw [eF] at ebody
                  obtain ⟨X9, eX9⟩ : ∃ X9, stD (adv b n s1) 10 y9 = X9 := ⟨_, rfl⟩
                  rw [ebody] at okX0 ePcl0
                  dsimp only at okX0 ePcl0
                  rw [eX9] at okX0 ePcl0
                  have ePcl := ePcl0
                  have okX := okX0
                  refine RN.abs (fun hC => SmL (fun a k => (a = 1085 ∧ (k = 50 ∨ k = 51 ∨ k = 54 ∨ k = 55 ∨ k = 56)) ∨ a = 1126) h hC ∧ RsM b n hC 0 X9 ∧ hC.2.1 1085 56 = op2 (fun a b => a <<< (b &&& 31)) 1 2) ⟨SmL.put S3 (by omega), ⟨by rw [← eX9]; exact fs1.symm, by rw [putI_ne (by omega), ← eX9]; exact b50, fun z => ⟨tez b n s1.1, by rw [putI_ne (by omega)]; exact e51, te6, by rw [← eX9]; rfl, fun q hq => ?_⟩⟩, by rw [putI_ne (by omega)]; exact b56⟩ (fun hC H9 => ?_)
                  · rw [← eX9]
                    show _ = upf s1.2.2.2.1 10 y9 q
                    by_cases e : q = 10
                    · rw [e, putI_eq, upf_eq]
                    · rw [putI_ne (by omega), upf_ne e]; exact bFr q hq
                  obtain ⟨S4, Rs, c56⟩ := H9
                  have QC := Q.fr S4 (fun a k z => by omega)
                  obtain ⟨g1, ql, qn, qb, qr⟩ := id QC
                  have hct : X9.2.2.2.2.1 = s1.2.2.2.2.1 ∧ X9.2.2.2.2.2 = s1.2.2.2.2.2 := by rw [← eX9]; exact ⟨rfl, rfl⟩
                  have eSeen : op2 (· ||| ·) (sn s.2.2.2.2.1 s.2.2.2.2.2) (op2 (fun a b => a <<< (b &&& 31)) 1 2) = sn X9.2.2.2.2.1 X9.2.2.2.2.2 := by rw [hct.1, hct.2, cs1, ls1]; exact so1
                  refine r_iload_n hm rfl (k := ?_)
                  refine r_if_le (t := 187) hm rfl rfl (fun c182 => ?_) (fun c182 => ?_)
                  · obtain ⟨p2, r51, rpn, rsk, rfr⟩ := Rs.2.2 rfl
                    have pXn := okX.1
                    refine r_aload_n hm rfl (k := ?_)
                    refine r_callv (j2 := 228) hm rfl rfl rfl rfl rfl rfl (by first | assumption | exact (g1.1 _).trans rfl) (Nat.le_of_ble_eq_true rfl) (Nat.le_of_ble_eq_true rfl) rfl ⟨Nat.le_of_ble_eq_true rfl, Nat.le_of_ble_eq_true rfl, Nat.le_of_ble_eq_true rfl, Nat.le_of_ble_eq_true rfl, Nat.le_of_ble_eq_true rfl⟩ rfl (m_here QC r51 rpn) (fun v9 hD p9 => ?_)
                    obtain ⟨SD, d51, e1⟩ := p9
                    subst e1
                    rw [rsk] at d51
                    rw [rsk]
                    have S5 := S4.trans (SD.mono (T := (fun a k => (a = 1085 ∧ (k = 50 ∨ k = 51 ∨ k = 54 ∨ k = 55 ∨ k = 56)) ∨ a = 1126)) (fun a k z => by omega))
                    have Q5 := Q.fr S5 (fun a k z => by omega)
                    obtain ⟨g1, ql, qn, qb, qr⟩ := id Q5
                    have d56 : hD.2.1 1085 56 = _ := (SD.2.2 _ _ (by omega)).trans c56
                    have d50 : hD.2.1 1085 50 = X9.2.2.1 := (SD.2.2 _ _ (by omega)).trans Rs.2.1
                    have hq9 := hr59 (b := b) (n := n) (P := X9.1)
                    change RN 229 191 _ _ _ 0 0 _
                    dsimp only [Option.toList, List.cons_append, List.nil_append]
                    refine r_bipush hm rfl (k := ?_)
                    refine r_icmp_eq (t := 206) hm rfl rfl (fun c193 => ?_) (fun c193 => ?_)
                    · refine r_aload_n hm rfl (k := ?_)
                      refine r_dup hm rfl (k := ?_)
                      refine r_getI (hm := hm) (hf := rfl) (hd := rfl) (hs := (by first | assumption | exact (g1.1 _).trans rfl)) (hv := (by first | exact putI_eq | exact (putI_ne (by omega)).trans (by first | exact putI_eq | exact (putI_ne (by omega)).trans (by first | first | assumption | exact g1.2 _ _ _ rfl | exact qb _ (by omega) | exact e54 | exact e51 | exact rfl) | first | assumption | exact g1.2 _ _ _ rfl | exact qb _ (by omega) | exact e54 | exact e51 | exact rfl) | first | assumption | exact g1.2 _ _ _ rfl | exact qb _ (by omega) | exact e54 | exact e51 | exact rfl)) (k := ?_)
                      refine r_iconst hm rfl (k := ?_)
                      refine r_iadd hm rfl (hr := (by omega)) (k := ?_)
                      refine r_putI (hm := hm) (hf := rfl) (hd := rfl) (hs := (by first | assumption | exact (g1.1 _).trans rfl)) (hfin := Or.inl rfl) (hz := fun q9 => absurd q9 (by decide)) (k := ?_)
                      refine r_iconst hm rfl (k := ?_)
                      refine r_ireturn hm rfl rfl (by rfl) (Nat.le_of_ble_eq_true rfl) (Nat.le_of_ble_eq_true rfl) ?_
                      have f9 : X9.2.1 = 0 := Rs.1.symm
                      have t3 : tkz b n X9.1 = 3 := hq9.mp c193
                      have eS : tsm b n X9 = adv b n X9 := by unfold tsm; rw [if_neg (fun z => z t3)]
                      have hl : X9.1 < n := by
                        apply Decidable.byContradiction
                        intro z
                        unfold tkz at t3
                        rw [if_neg z] at t3
                        omega
                      have eT : tez b n X9.1 = X9.1 + 1 := by unfold tez; rw [if_pos hl, if_neg (by omega)]
                      refine ⟨SmL.put S5 (by omega), 0, rfl, ⟨?_, ?_, fun _ => ⟨X9.1 + 1, putI_eq, by omega, ?_, fun k hk => ?_⟩⟩, fun _ => ?_⟩
                      · rw [ePcl, eS]; exact f9.symm
                      · rw [ePcl, eS, putI_ne (by omega)]; exact d50
                      · rw [ePcl, eS, ← eT]; rfl
                      · rw [ePcl, eS, putI_ne (by omega), SD.2.2 _ _ (by omega)]; exact rfr k hk
                      · rw [ePcl, eS, putI_ne (by omega), d56]; exact eSeen 
                    · refine r_aload_n hm rfl (k := ?_)
                      refine r_iconst hm rfl (k := ?_)
                      refine r_aload_n hm rfl (k := ?_)
                      refine r_getI (hm := hm) (hf := rfl) (hd := rfl) (hs := (by first | assumption | exact (g1.1 _).trans rfl)) (hv := (by first | exact putI_eq | exact (putI_ne (by omega)).trans (by first | exact putI_eq | exact (putI_ne (by omega)).trans (by first | first | assumption | exact g1.2 _ _ _ rfl | exact qb _ (by omega) | exact e54 | exact e51 | exact rfl) | first | assumption | exact g1.2 _ _ _ rfl | exact qb _ (by omega) | exact e54 | exact e51 | exact rfl) | first | assumption | exact g1.2 _ _ _ rfl | exact qb _ (by omega) | exact e54 | exact e51 | exact rfl)) (k := ?_)
                      refine r_callv (j2 := 234) hm rfl rfl rfl rfl rfl rfl (by first | assumption | exact (g1.1 _).trans rfl) (Nat.le_of_ble_eq_true rfl) (Nat.le_of_ble_eq_true rfl) rfl ⟨Nat.le_of_ble_eq_true rfl, Nat.le_of_ble_eq_true rfl, Nat.le_of_ble_eq_true rfl, Nat.le_of_ble_eq_true rfl, Nat.le_of_ble_eq_true rfl⟩ rfl (m_fails Q5) (fun v9 h9 p9 => ?_)
                      obtain ⟨e1, e2⟩ := p9
                      subst e2
                      subst e1
                      change RN 229 205 _ _ _ 0 0 _
                      dsimp only [Option.toList, List.cons_append, List.nil_append]
                      refine r_ireturn hm rfl rfl (by rfl) (Nat.le_of_ble_eq_true rfl) (Nat.le_of_ble_eq_true rfl) ?_
                      have f9 : X9.2.1 = 0 := Rs.1.symm
                      have eS : tsm b n X9 = (X9.1, 1, (X9.1 : Int), X9.2.2.2.1, X9.2.2.2.2.1, X9.2.2.2.2.2) := by
                        unfold tsm
                        rw [if_pos (fun z => c193 (hq9.mpr z)), nt_0 f9]
                      refine ⟨SmL.put S5 (by omega), 1, rfl, ⟨?_, ?_, fun z => absurd z (by decide)⟩, fun z => absurd z (by decide)⟩
                      · rw [ePcl, eS]
                      · rw [ePcl, eS]; exact putI_eq
                  · exfalso; omega
                · refine r_aload_n hm rfl (k := ?_)
                  refine r_iconst hm rfl (k := ?_)
                  refine r_aload_n hm rfl (k := ?_)
                  refine r_getI (hm := hm) (hf := rfl) (hd := rfl) (hs := (by first | assumption | exact (g1.1 _).trans rfl)) (hv := (by first | exact putI_eq | exact (putI_ne (by omega)).trans (by first | exact putI_eq | exact (putI_ne (by omega)).trans (by first | first | assumption | exact g1.2 _ _ _ rfl | exact qb _ (by omega) | exact e54 | exact e51 | exact rfl) | first | assumption | exact g1.2 _ _ _ rfl | exact qb _ (by omega) | exact e54 | exact e51 | exact rfl) | first | assumption | exact g1.2 _ _ _ rfl | exact qb _ (by omega) | exact e54 | exact e51 | exact rfl)) (k := ?_)
                  refine r_callv (j2 := 234) hm rfl rfl rfl rfl rfl rfl (by first | assumption | exact (g1.1 _).trans rfl) (Nat.le_of_ble_eq_true rfl) (Nat.le_of_ble_eq_true rfl) rfl ⟨Nat.le_of_ble_eq_true rfl, Nat.le_of_ble_eq_true rfl, Nat.le_of_ble_eq_true rfl, Nat.le_of_ble_eq_true rfl, Nat.le_of_ble_eq_true rfl⟩ rfl (m_fails Q3) (fun v9 h9 p9 => ?_)
                  obtain ⟨e1, e2⟩ := p9
                  subst e2
                  subst e1
                  change RN 229 167 _ _ _ 0 0 _
                  dsimp only [Option.toList, List.cons_append, List.nil_append]
                  refine r_ireturn hm rfl rfl (by rfl) (Nat.le_of_ble_eq_true rfl) (Nat.le_of_ble_eq_true rfl) ?_
                  have eF : tch b n s1 4 = (nt s1 1, 0) := by
                    rcases hck with z | z
                    · exact z.2
                    · exfalso; omega
                  have eN : nt s1 1 = (s1.1, 1, (s1.1 : Int), s1.2.2.2.1, s1.2.2.2.2.1, s1.2.2.2.2.2) := nt_0 fs1
                  rw [eF, eN] at ebody
                  rw [ebody] at ePcl0
                  obtain ⟨t1, t2⟩ := fz_tsm (b := b) (n := n) (s := stD (s1.1, 1, (s1.1 : Int), s1.2.2.2.1, s1.2.2.2.2.1, s1.2.2.2.2.2) 10 0) (by show (1 : Int) ≠ 0; decide)
                  refine ⟨SmL.put S3 (by omega), 1, rfl, ⟨?_, ?_, fun z => absurd z (by decide)⟩, fun z => absurd z (by decide)⟩
                  · rw [ePcl0, t1]; rfl
                  · rw [ePcl0, t2]; rw [putI_eq, if_pos (by omega)]; rfl
              · exfalso; omega
            · exfalso; omega
          · exfalso; omega
        · refine r_aload_n hm rfl (k := ?_)
          refine r_iconst hm rfl (k := ?_)
          refine r_aload_n hm rfl (k := ?_)
          refine r_getI (hm := hm) (hf := rfl) (hd := rfl) (hs := (by first | assumption | exact (g1.1 _).trans rfl)) (hv := (by first | exact putI_eq | exact (putI_ne (by omega)).trans (by first | exact putI_eq | exact (putI_ne (by omega)).trans (by first | first | assumption | exact g1.2 _ _ _ rfl | exact qb _ (by omega) | exact e54 | exact e51 | exact rfl) | first | assumption | exact g1.2 _ _ _ rfl | exact qb _ (by omega) | exact e54 | exact e51 | exact rfl) | first | assumption | exact g1.2 _ _ _ rfl | exact qb _ (by omega) | exact e54 | exact e51 | exact rfl)) (k := ?_)
          refine r_callv (j2 := 234) hm rfl rfl rfl rfl rfl rfl (by first | assumption | exact (g1.1 _).trans rfl) (Nat.le_of_ble_eq_true rfl) (Nat.le_of_ble_eq_true rfl) rfl ⟨Nat.le_of_ble_eq_true rfl, Nat.le_of_ble_eq_true rfl, Nat.le_of_ble_eq_true rfl, Nat.le_of_ble_eq_true rfl, Nat.le_of_ble_eq_true rfl⟩ rfl (m_fails Q1) (fun v9 h9 p9 => ?_)
          obtain ⟨e1, e2⟩ := p9
          subst e2
          subst e1
          change RN 229 46 _ _ _ 0 0 _
          dsimp only [Option.toList, List.cons_append, List.nil_append]
          refine r_ireturn hm rfl rfl (by rfl) (Nat.le_of_ble_eq_true rfl) (Nat.le_of_ble_eq_true rfl) ?_
          have ct1 : s.2.2.2.2.1 1 ≠ 0 := by omega
          have eB : bgc b n s 1 = adv b n (stC (s.1, 3, (s.1 : Int), s.2.2.2.1, s.2.2.2.2.1, s.2.2.2.2.2) 1 1) := by unfold bgc; rw [if_pos ct1, nt_0 f0]
          obtain ⟨g1_, g2_⟩ : (bgc b n s 1).2.1 = 3 ∧ (bgc b n s 1).2.2.1 = (s.1 : Int) := by rw [eB]; exact ⟨rfl, rfl⟩
          obtain ⟨a1, a2⟩ := fz_tcD (b := b) (n := n) (s := bgc b n s 1) (i := 4) (k := 10) (by rw [g1_]; decide)
          have gA : (tcD b n (bgc b n s 1) 4 10).2.1 = 3 ∧ (tcD b n (bgc b n s 1) 4 10).2.2.1 = (s.1 : Int) := ⟨by rw [a1, g1_], by rw [a2, g2_]⟩
          obtain ⟨t1, t2⟩ := fz_tsm (b := b) (n := n) (s := tcD b n (bgc b n s 1) 4 10) (by rw [gA.1]; decide)
          refine ⟨SmL.put S1 (by omega), 3, rfl, ⟨?_, ?_, fun z => absurd z (by decide)⟩, fun z => absurd z (by decide)⟩
          · rw [ePcl0, t1, gA.1]
          · rw [ePcl0, t2, gA.2]; exact putI_eq
    · exfalso; omega
  · have ePcl0 : pcl b n s = tsm b n (tcD b n (bgc b n s 2) 4 11) := by unfold pcl; rw [if_neg (by rw [i0]; decide), if_neg (by rw [i2]; decide), if_neg (by rw [i3]; decide), if_pos i5]
    have tk1 := isW_tk i5
    have okX0 : okR b n (tcD b n (bgc b n s 2) 4 11) := okR.m_tcD (okR.m_bgc ok) (by omega)
    rw [(wE_tk ok.1).1 tk1] at e54
    refine r_iload_n hm rfl (k := ?_)
    refine r_if_ge (t := 23) hm rfl rfl (fun c10 => ?_) (fun c10 => ?_)
    · refine r_iload_n hm rfl (k := ?_)
      refine r_iconst hm rfl (k := ?_)
      refine r_icmp_eq (t := 47) hm rfl rfl (fun c25 => ?_) (fun c25 => ?_)
      · exfalso; omega
      · refine r_iload_n hm rfl (k := ?_)
        refine r_iload_n hm rfl (k := ?_)
        refine r_ishr hm rfl (k := ?_)
        refine r_iconst hm rfl (k := ?_)
        refine r_iand hm rfl (k := ?_)
        show RN 229 33 _ (.inl (sBt (sn s.2.2.2.2.1 s.2.2.2.2.2) 3) :: _) _ _ _ _
        rw [sb2]
        refine r_iconst hm rfl (k := ?_)
        refine r_icmp_ne (t := 47) hm rfl rfl (fun c34 => ?_) (fun c34 => ?_)
        · refine r_aload_n hm rfl (k := ?_)
          refine r_aload_n hm rfl (k := ?_)
          refine r_getI (hm := hm) (hf := rfl) (hd := rfl) (hs := (by first | assumption | exact (g1.1 _).trans rfl)) (hv := (by first | exact putI_eq | exact (putI_ne (by omega)).trans (by first | exact putI_eq | exact (putI_ne (by omega)).trans (by first | first | assumption | exact g1.2 _ _ _ rfl | exact qb _ (by omega) | exact e54 | exact e51 | exact rfl) | first | assumption | exact g1.2 _ _ _ rfl | exact qb _ (by omega) | exact e54 | exact e51 | exact rfl) | first | assumption | exact g1.2 _ _ _ rfl | exact qb _ (by omega) | exact e54 | exact e51 | exact rfl)) (k := ?_)
          refine r_putI (hm := hm) (hf := rfl) (hd := rfl) (hs := (by first | assumption | exact (g1.1 _).trans rfl)) (hfin := Or.inl rfl) (hz := fun q9 => absurd q9 (by decide)) (k := ?_)
          refine r_iconst hm rfl (k := ?_)
          refine r_istore_n hm rfl (k := ?_)
          refine r_aload_n hm rfl (k := ?_)
          refine r_iconst hm rfl (k := ?_)
          refine r_iload_n hm rfl (k := ?_)
          refine r_ishl hm rfl (k := ?_)
          refine r_putI (hm := hm) (hf := rfl) (hd := rfl) (hs := (by first | assumption | exact (g1.1 _).trans rfl)) (hfin := Or.inl rfl) (hz := fun q9 => absurd q9 (by decide)) (k := ?_)
          have S2 : SmL (fun a k => (a = 1085 ∧ (k = 50 ∨ k = 51 ∨ k = 54 ∨ k = 55 ∨ k = 56)) ∨ a = 1126) h (putI (putI hA 1085 51 ((tez b n s.1 : Nat) : Int)) 1085 56 (op2 (fun a b => a <<< (b &&& 31)) 1 3)) := SmL.put (SmL.put S1 (by omega)) (by omega)
          have Q2 := Q.fr S2 (fun a k z => by omega)
          obtain ⟨g1, ql, qn, qb, qr⟩ := id Q2
          have p51 : (putI (putI hA 1085 51 ((tez b n s.1 : Nat) : Int)) 1085 56 (op2 (fun a b => a <<< (b &&& 31)) 1 3)).2.1 1085 51 = ((tez b n s.1 : Nat) : Int) := by rw [putI_ne (by omega), putI_eq]
          have ct0 : s.2.2.2.2.1 2 = 0 := by have := ok.2.2.2.2.2.1 2; omega
          have eB : bgc b n s 2 = adv b n (stC s 2 1) := by unfold bgc; rw [if_neg (fun z => z ct0)]
          obtain ⟨s1, es1⟩ : ∃ s1, (bgc b n s 2) = s1 := ⟨_, rfl⟩
          rw [es1] at ePcl0 okX0
          have ok1 : okR b n s1 := by rw [← es1]; exact okR.m_bgc ok
          have ps1 : sk b n (tez b n s.1) = s1.1 := by rw [← es1, eB]; rfl
          have fs1 : s1.2.1 = 0 := by rw [← es1, eB]; exact f0
          have as1 : s1.2.2.1 = s.2.2.1 := by rw [← es1, eB]; rfl
          have ds1 : s1.2.2.2.1 = s.2.2.2.1 := by rw [← es1, eB]; rfl
          have cs1 : s1.2.2.2.2.1 = upf s.2.2.2.2.1 2 1 := by rw [← es1, eB]; rfl
          have ls1 : s1.2.2.2.2.2 = s.2.2.2.2.2 := by rw [← es1, eB]; rfl
          have f50 : (putI (putI hA 1085 51 ((tez b n s.1 : Nat) : Int)) 1085 56 (op2 (fun a b => a <<< (b &&& 31)) 1 3)).2.1 1085 50 = s1.2.2.1 := by rw [putI_ne (by omega), putI_ne (by omega), as1]; exact a50
          have fFr : ∀ k, k < 13 → (putI (putI hA 1085 51 ((tez b n s.1 : Nat) : Int)) 1085 56 (op2 (fun a b => a <<< (b &&& 31)) 1 3)).2.1 1126 k = s1.2.2.2.1 k := fun k hk => by rw [putI_ne (by omega), putI_ne (by omega), ds1]; exact aFr k hk
          have h56 : (putI (putI hA 1085 51 ((tez b n s.1 : Nat) : Int)) 1085 56 (op2 (fun a b => a <<< (b &&& 31)) 1 3)).2.1 1085 56 = op2 (fun a b => a <<< (b &&& 31)) 1 3 := putI_eq
          refine r_iload_n hm rfl (k := ?_)
          refine r_if_ne (t := 76) hm rfl rfl (fun c65 => ?_) (fun c65 => ?_)
          · refine r_iload_n hm rfl (k := ?_)
            refine r_iconst hm rfl (k := ?_)
            refine r_icmp_ne (t := 103) hm rfl rfl (fun c78 => ?_) (fun c78 => ?_)
            · refine r_aload_n hm rfl (k := ?_)
              refine r_lconst hm rfl (k := ?_)
              refine r_bipush hm rfl (k := ?_)
              refine r_bipush hm rfl (k := ?_)
              refine r_iconst hm rfl (k := ?_)
              refine r_iconst hm rfl (k := ?_)
              refine r_calls (j2 := 232) hm rfl rfl rfl rfl rfl rfl (Nat.le_of_ble_eq_true rfl) (Nat.le_of_ble_eq_true rfl) rfl ⟨Nat.le_of_ble_eq_true rfl, Nat.le_of_ble_eq_true rfl, Nat.le_of_ble_eq_true rfl, Nat.le_of_ble_eq_true rfl, Nat.le_of_ble_eq_true rfl⟩ rfl (m_codeX (x := Int64.ofInt (cdW 9)) (by decide +kernel)) (fun v9 h9 p9 => ?_)
              obtain ⟨e1, e2⟩ := p9
              subst e2
              replace e1 := e1.symm
              subst e1
              change RN 229 114 _ _ _ 0 0 _
              dsimp only [Option.toList, List.cons_append, List.nil_append]
              refine r_iload_n hm rfl (k := ?_)
              refine r_iconst hm rfl (k := ?_)
              refine r_icmp_ne (t := 133) hm rfl rfl (fun c116 => ?_) (fun c116 => ?_)
              · refine r_lconst hm rfl (k := ?_)
                refine r_bipush hm rfl (k := ?_)
                refine r_bipush hm rfl (k := ?_)
                refine r_bipush hm rfl (k := ?_)
                refine r_bipush hm rfl (k := ?_)
                refine r_calls (j2 := 232) hm rfl rfl rfl rfl rfl rfl (Nat.le_of_ble_eq_true rfl) (Nat.le_of_ble_eq_true rfl) rfl ⟨Nat.le_of_ble_eq_true rfl, Nat.le_of_ble_eq_true rfl, Nat.le_of_ble_eq_true rfl, Nat.le_of_ble_eq_true rfl, Nat.le_of_ble_eq_true rfl⟩ rfl (m_codeX (x := Int64.ofInt (cdW 4)) (by decide +kernel)) (fun v9 h9 p9 => ?_)
                obtain ⟨e1, e2⟩ := p9
                subst e2
                replace e1 := e1.symm
                subst e1
                change RN 229 145 _ _ _ 0 0 _
                dsimp only [Option.toList, List.cons_append, List.nil_append]
                refine r_ldc2 hm rfl (hd := rfl) (k := ?_)
                refine r_callv (j2 := 237) hm rfl rfl rfl rfl rfl rfl (by first | assumption | exact (g1.1 _).trans rfl) (Nat.le_of_ble_eq_true rfl) (Nat.le_of_ble_eq_true rfl) rfl ⟨Nat.le_of_ble_eq_true rfl, Nat.le_of_ble_eq_true rfl, Nat.le_of_ble_eq_true rfl, Nat.le_of_ble_eq_true rfl, Nat.le_of_ble_eq_true rfl⟩ rfl (m_oneX Q2 p51 te2 (a1 := cdW 9) (a2 := cdW 4) (a3 := -1) rfl rfl (by decide +kernel) (c9 9 (by omega)) (c9 4 (by omega)) (by omega)) (fun v9 hB_ p9 => ?_)
                obtain ⟨SB, e51, e1⟩ := p9
                subst e1
                rw [ps1] at e51
                rw [ps1]
                have ps1n := ok1.1
                have wr1 := wC_rng (b := b) ps1n
                rw [oneK2 wr1.1 (wd_let (i := 9) (by omega)).2.1 (wd_let (i := 4) (by omega)).2.1] at e51
                rw [oneK2 wr1.1 (wd_let (i := 9) (by omega)).2.1 (wd_let (i := 4) (by omega)).2.1]
                have S3 := S2.trans (SB.mono (T := (fun a k => (a = 1085 ∧ (k = 50 ∨ k = 51 ∨ k = 54 ∨ k = 55 ∨ k = 56)) ∨ a = 1126)) (fun a k z => by omega))
                have Q3 := Q.fr S3 (fun a k z => by omega)
                obtain ⟨g1, ql, qn, qb, qr⟩ := id Q3
                have w9i := wC_is (b := b) (i := 9) ps1n (by omega)
                have wXi := wC_is (b := b) (i := 4) ps1n (by omega)
                have nd : cdW 9 ≠ cdW 4 := by decide +kernel
                have b50 : hB_.2.1 1085 50 = s1.2.2.1 := (SB.2.2 _ _ (by omega)).trans f50
                have bFr : ∀ k, k < 13 → hB_.2.1 1126 k = s1.2.2.2.1 k := fun k hk => (SB.2.2 _ _ (by omega)).trans (fFr k hk)
                have b56 : hB_.2.1 1085 56 = op2 (fun a b => a <<< (b &&& 31)) 1 3 := (SB.2.2 _ _ (by omega)).trans h56
                have hck : ((if wC b n s1.1 = cdW 9 then (0 : Int) else if wC b n s1.1 = cdW 4 then 1 else -1) = -1 ∧ tch b n s1 4 = (nt s1 1, 0)) ∨ (0 ≤ (if wC b n s1.1 = cdW 9 then (0 : Int) else if wC b n s1.1 = cdW 4 then 1 else -1) ∧ (if wC b n s1.1 = cdW 9 then (0 : Int) else if wC b n s1.1 = cdW 4 then 1 else -1) ≤ 1 ∧ tch b n s1 4 = (adv b n s1, if wC b n s1.1 = cdW 9 then (0 : Int) else if wC b n s1.1 = cdW 4 then 1 else -1) ∧ tkz b n s1.1 = 1) := by
                  unfold tch twd
                  by_cases z9 : wC b n s1.1 = cdW 9
                  · right
                    have jX : ¬ isW b n s1.1 4 = true := fun z => nd (by rw [← z9, wXi.mpr z])
                    rw [if_pos z9, if_neg jX, if_pos (w9i.mp z9)]
                    exact ⟨by omega, by omega, rfl, isW_tk (w9i.mp z9)⟩
                  · have j9 : ¬ isW b n s1.1 9 = true := fun z => z9 (w9i.mpr z)
                    by_cases zX : wC b n s1.1 = cdW 4
                    · right
                      rw [if_neg z9, if_pos zX, if_pos (wXi.mp zX)]
                      exact ⟨by omega, by omega, rfl, isW_tk (wXi.mp zX)⟩
                    · left
                      rw [if_neg z9, if_neg zX, if_neg (fun z => zX (wXi.mpr z)), if_neg j9]
                      exact ⟨rfl, rfl⟩
                obtain ⟨y9, ey9⟩ : ∃ y9, (if wC b n s1.1 = cdW 9 then (0 : Int) else if wC b n s1.1 = cdW 4 then 1 else -1) = y9 := ⟨_, rfl⟩
                rw [ey9] at e51 hck
                rw [ey9]
                have ebody : tcD b n s1 4 11 = stD (tch b n s1 4).1 11 (tch b n s1 4).2 := rfl
                change RN 229 151 _ _ _ 0 0 _
                dsimp only [Option.toList, List.cons_append, List.nil_append]
                refine r_istore hm rfl (k := ?_)
                refine r_iload hm rfl (k := ?_)
                refine r_if_ge (t := 168) hm rfl rfl (fun c155 => ?_) (fun c155 => ?_)
                · refine r_aload_n hm rfl (k := ?_)
                  refine r_getR (hm := hm) (hf := rfl) (hd := rfl) (hs := (by first | assumption | exact (g1.1 _).trans rfl)) (hv := (by first | exact putI_eq | exact (putI_ne (by omega)).trans (by first | exact putI_eq | exact (putI_ne (by omega)).trans (by first | first | assumption | exact g1.2 _ _ _ rfl | exact qb _ (by omega) | exact e54 | exact e51 | exact rfl) | first | assumption | exact g1.2 _ _ _ rfl | exact qb _ (by omega) | exact e54 | exact e51 | exact rfl) | first | assumption | exact g1.2 _ _ _ rfl | exact qb _ (by omega) | exact e54 | exact e51 | exact rfl)) (k := ?_)
                  refine r_bipush hm rfl (k := ?_)
                  refine r_iload_n hm rfl (k := ?_)
                  refine r_iadd hm rfl (hr := (by omega)) (k := ?_)
                  refine r_iconst hm rfl (k := ?_)
                  refine r_isub hm rfl (hr := (by omega)) (k := ?_)
                  refine r_iload hm rfl (k := ?_)
                  refine r_iast (hm := hm) (hf := rfl) (h28 := (by omega)) (hs := (by first | assumption | exact (g1.1 _).trans rfl)) (kk := 11) (hi := by omega) (hn := (by omega)) (k := ?_)
                  obtain ⟨y1, y2, eF, tkn⟩ : 0 ≤ y9 ∧ y9 ≤ 1 ∧ tch b n s1 4 = (adv b n s1, y9) ∧ tkz b n s1.1 = 1 := by
                    rcases hck with z | z
                    · exfalso; omega
                    · exact z
                  rw [if_neg (by omega), (wE_tk ps1n).1 tkn] at e51
                  obtain ⟨te5, te6, te7⟩ := tez_rng (b := b) ps1n
                  rw [eF] at ebody
                  obtain ⟨X9, eX9⟩ : ∃ X9, stD (adv b n s1) 11 y9 = X9 := ⟨_, rfl⟩
                  rw [ebody] at okX0 ePcl0
                  dsimp only at okX0 ePcl0
                  rw [eX9] at okX0 ePcl0
                  have ePcl := ePcl0
                  have okX := okX0
                  refine RN.abs (fun hC => SmL (fun a k => (a = 1085 ∧ (k = 50 ∨ k = 51 ∨ k = 54 ∨ k = 55 ∨ k = 56)) ∨ a = 1126) h hC ∧ RsM b n hC 0 X9 ∧ hC.2.1 1085 56 = op2 (fun a b => a <<< (b &&& 31)) 1 3) ⟨SmL.put S3 (by omega), ⟨by rw [← eX9]; exact fs1.symm, by rw [putI_ne (by omega), ← eX9]; exact b50, fun z => ⟨tez b n s1.1, by rw [putI_ne (by omega)]; exact e51, te6, by rw [← eX9]; rfl, fun q hq => ?_⟩⟩, by rw [putI_ne (by omega)]; exact b56⟩ (fun hC H9 => ?_)
                  · rw [← eX9]
                    show _ = upf s1.2.2.2.1 11 y9 q
                    by_cases e : q = 11
                    · rw [e, putI_eq, upf_eq]
                    · rw [putI_ne (by omega), upf_ne e]; exact bFr q hq
                  obtain ⟨S4, Rs, c56⟩ := H9
                  have QC := Q.fr S4 (fun a k z => by omega)
                  obtain ⟨g1, ql, qn, qb, qr⟩ := id QC
                  have hct : X9.2.2.2.2.1 = s1.2.2.2.2.1 ∧ X9.2.2.2.2.2 = s1.2.2.2.2.2 := by rw [← eX9]; exact ⟨rfl, rfl⟩
                  have eSeen : op2 (· ||| ·) (sn s.2.2.2.2.1 s.2.2.2.2.2) (op2 (fun a b => a <<< (b &&& 31)) 1 3) = sn X9.2.2.2.2.1 X9.2.2.2.2.2 := by rw [hct.1, hct.2, cs1, ls1]; exact so2
                  refine r_iload_n hm rfl (k := ?_)
                  refine r_if_le (t := 187) hm rfl rfl (fun c182 => ?_) (fun c182 => ?_)
                  · obtain ⟨p2, r51, rpn, rsk, rfr⟩ := Rs.2.2 rfl
                    have pXn := okX.1
                    refine r_aload_n hm rfl (k := ?_)
                    refine r_callv (j2 := 228) hm rfl rfl rfl rfl rfl rfl (by first | assumption | exact (g1.1 _).trans rfl) (Nat.le_of_ble_eq_true rfl) (Nat.le_of_ble_eq_true rfl) rfl ⟨Nat.le_of_ble_eq_true rfl, Nat.le_of_ble_eq_true rfl, Nat.le_of_ble_eq_true rfl, Nat.le_of_ble_eq_true rfl, Nat.le_of_ble_eq_true rfl⟩ rfl (m_here QC r51 rpn) (fun v9 hD p9 => ?_)
                    obtain ⟨SD, d51, e1⟩ := p9
                    subst e1
                    rw [rsk] at d51
                    rw [rsk]
                    have S5 := S4.trans (SD.mono (T := (fun a k => (a = 1085 ∧ (k = 50 ∨ k = 51 ∨ k = 54 ∨ k = 55 ∨ k = 56)) ∨ a = 1126)) (fun a k z => by omega))
                    have Q5 := Q.fr S5 (fun a k z => by omega)
                    obtain ⟨g1, ql, qn, qb, qr⟩ := id Q5
                    have d56 : hD.2.1 1085 56 = _ := (SD.2.2 _ _ (by omega)).trans c56
                    have d50 : hD.2.1 1085 50 = X9.2.2.1 := (SD.2.2 _ _ (by omega)).trans Rs.2.1
                    have hq9 := hr59 (b := b) (n := n) (P := X9.1)
                    change RN 229 191 _ _ _ 0 0 _
                    dsimp only [Option.toList, List.cons_append, List.nil_append]
                    refine r_bipush hm rfl (k := ?_)
                    refine r_icmp_eq (t := 206) hm rfl rfl (fun c193 => ?_) (fun c193 => ?_)
                    · refine r_aload_n hm rfl (k := ?_)
                      refine r_dup hm rfl (k := ?_)
                      refine r_getI (hm := hm) (hf := rfl) (hd := rfl) (hs := (by first | assumption | exact (g1.1 _).trans rfl)) (hv := (by first | exact putI_eq | exact (putI_ne (by omega)).trans (by first | exact putI_eq | exact (putI_ne (by omega)).trans (by first | first | assumption | exact g1.2 _ _ _ rfl | exact qb _ (by omega) | exact e54 | exact e51 | exact rfl) | first | assumption | exact g1.2 _ _ _ rfl | exact qb _ (by omega) | exact e54 | exact e51 | exact rfl) | first | assumption | exact g1.2 _ _ _ rfl | exact qb _ (by omega) | exact e54 | exact e51 | exact rfl)) (k := ?_)
                      refine r_iconst hm rfl (k := ?_)
                      refine r_iadd hm rfl (hr := (by omega)) (k := ?_)
                      refine r_putI (hm := hm) (hf := rfl) (hd := rfl) (hs := (by first | assumption | exact (g1.1 _).trans rfl)) (hfin := Or.inl rfl) (hz := fun q9 => absurd q9 (by decide)) (k := ?_)
                      refine r_iconst hm rfl (k := ?_)
                      refine r_ireturn hm rfl rfl (by rfl) (Nat.le_of_ble_eq_true rfl) (Nat.le_of_ble_eq_true rfl) ?_
                      have f9 : X9.2.1 = 0 := Rs.1.symm
                      have t3 : tkz b n X9.1 = 3 := hq9.mp c193
                      have eS : tsm b n X9 = adv b n X9 := by unfold tsm; rw [if_neg (fun z => z t3)]
                      have hl : X9.1 < n := by
                        apply Decidable.byContradiction
                        intro z
                        unfold tkz at t3
                        rw [if_neg z] at t3
                        omega
                      have eT : tez b n X9.1 = X9.1 + 1 := by unfold tez; rw [if_pos hl, if_neg (by omega)]
                      refine ⟨SmL.put S5 (by omega), 0, rfl, ⟨?_, ?_, fun _ => ⟨X9.1 + 1, putI_eq, by omega, ?_, fun k hk => ?_⟩⟩, fun _ => ?_⟩
                      · rw [ePcl, eS]; exact f9.symm
                      · rw [ePcl, eS, putI_ne (by omega)]; exact d50
                      · rw [ePcl, eS, ← eT]; rfl
                      · rw [ePcl, eS, putI_ne (by omega), SD.2.2 _ _ (by omega)]; exact rfr k hk
                      · rw [ePcl, eS, putI_ne (by omega), d56]; exact eSeen 
                    · refine r_aload_n hm rfl (k := ?_)
                      refine r_iconst hm rfl (k := ?_)
                      refine r_aload_n hm rfl (k := ?_)
                      refine r_getI (hm := hm) (hf := rfl) (hd := rfl) (hs := (by first | assumption | exact (g1.1 _).trans rfl)) (hv := (by first | exact putI_eq | exact (putI_ne (by omega)).trans (by first | exact putI_eq | exact (putI_ne (by omega)).trans (by first | first | assumption | exact g1.2 _ _ _ rfl | exact qb _ (by omega) | exact e54 | exact e51 | exact rfl) | first | assumption | exact g1.2 _ _ _ rfl | exact qb _ (by omega) | exact e54 | exact e51 | exact rfl) | first | assumption | exact g1.2 _ _ _ rfl | exact qb _ (by omega) | exact e54 | exact e51 | exact rfl)) (k := ?_)
                      refine r_callv (j2 := 234) hm rfl rfl rfl rfl rfl rfl (by first | assumption | exact (g1.1 _).trans rfl) (Nat.le_of_ble_eq_true rfl) (Nat.le_of_ble_eq_true rfl) rfl ⟨Nat.le_of_ble_eq_true rfl, Nat.le_of_ble_eq_true rfl, Nat.le_of_ble_eq_true rfl, Nat.le_of_ble_eq_true rfl, Nat.le_of_ble_eq_true rfl⟩ rfl (m_fails Q5) (fun v9 h9 p9 => ?_)
                      obtain ⟨e1, e2⟩ := p9
                      subst e2
                      subst e1
                      change RN 229 205 _ _ _ 0 0 _
                      dsimp only [Option.toList, List.cons_append, List.nil_append]
                      refine r_ireturn hm rfl rfl (by rfl) (Nat.le_of_ble_eq_true rfl) (Nat.le_of_ble_eq_true rfl) ?_
                      have f9 : X9.2.1 = 0 := Rs.1.symm
                      have eS : tsm b n X9 = (X9.1, 1, (X9.1 : Int), X9.2.2.2.1, X9.2.2.2.2.1, X9.2.2.2.2.2) := by
                        unfold tsm
                        rw [if_pos (fun z => c193 (hq9.mpr z)), nt_0 f9]
                      refine ⟨SmL.put S5 (by omega), 1, rfl, ⟨?_, ?_, fun z => absurd z (by decide)⟩, fun z => absurd z (by decide)⟩
                      · rw [ePcl, eS]
                      · rw [ePcl, eS]; exact putI_eq
                  · exfalso; omega
                · refine r_aload_n hm rfl (k := ?_)
                  refine r_iconst hm rfl (k := ?_)
                  refine r_aload_n hm rfl (k := ?_)
                  refine r_getI (hm := hm) (hf := rfl) (hd := rfl) (hs := (by first | assumption | exact (g1.1 _).trans rfl)) (hv := (by first | exact putI_eq | exact (putI_ne (by omega)).trans (by first | exact putI_eq | exact (putI_ne (by omega)).trans (by first | first | assumption | exact g1.2 _ _ _ rfl | exact qb _ (by omega) | exact e54 | exact e51 | exact rfl) | first | assumption | exact g1.2 _ _ _ rfl | exact qb _ (by omega) | exact e54 | exact e51 | exact rfl) | first | assumption | exact g1.2 _ _ _ rfl | exact qb _ (by omega) | exact e54 | exact e51 | exact rfl)) (k := ?_)
                  refine r_callv (j2 := 234) hm rfl rfl rfl rfl rfl rfl (by first | assumption | exact (g1.1 _).trans rfl) (Nat.le_of_ble_eq_true rfl) (Nat.le_of_ble_eq_true rfl) rfl ⟨Nat.le_of_ble_eq_true rfl, Nat.le_of_ble_eq_true rfl, Nat.le_of_ble_eq_true rfl, Nat.le_of_ble_eq_true rfl, Nat.le_of_ble_eq_true rfl⟩ rfl (m_fails Q3) (fun v9 h9 p9 => ?_)
                  obtain ⟨e1, e2⟩ := p9
                  subst e2
                  subst e1
                  change RN 229 167 _ _ _ 0 0 _
                  dsimp only [Option.toList, List.cons_append, List.nil_append]
                  refine r_ireturn hm rfl rfl (by rfl) (Nat.le_of_ble_eq_true rfl) (Nat.le_of_ble_eq_true rfl) ?_
                  have eF : tch b n s1 4 = (nt s1 1, 0) := by
                    rcases hck with z | z
                    · exact z.2
                    · exfalso; omega
                  have eN : nt s1 1 = (s1.1, 1, (s1.1 : Int), s1.2.2.2.1, s1.2.2.2.2.1, s1.2.2.2.2.2) := nt_0 fs1
                  rw [eF, eN] at ebody
                  rw [ebody] at ePcl0
                  obtain ⟨t1, t2⟩ := fz_tsm (b := b) (n := n) (s := stD (s1.1, 1, (s1.1 : Int), s1.2.2.2.1, s1.2.2.2.2.1, s1.2.2.2.2.2) 11 0) (by show (1 : Int) ≠ 0; decide)
                  refine ⟨SmL.put S3 (by omega), 1, rfl, ⟨?_, ?_, fun z => absurd z (by decide)⟩, fun z => absurd z (by decide)⟩
                  · rw [ePcl0, t1]; rfl
                  · rw [ePcl0, t2]; rw [putI_eq, if_pos (by omega)]; rfl
              · exfalso; omega
            · exfalso; omega
          · exfalso; omega
        · refine r_aload_n hm rfl (k := ?_)
          refine r_iconst hm rfl (k := ?_)
          refine r_aload_n hm rfl (k := ?_)
          refine r_getI (hm := hm) (hf := rfl) (hd := rfl) (hs := (by first | assumption | exact (g1.1 _).trans rfl)) (hv := (by first | exact putI_eq | exact (putI_ne (by omega)).trans (by first | exact putI_eq | exact (putI_ne (by omega)).trans (by first | first | assumption | exact g1.2 _ _ _ rfl | exact qb _ (by omega) | exact e54 | exact e51 | exact rfl) | first | assumption | exact g1.2 _ _ _ rfl | exact qb _ (by omega) | exact e54 | exact e51 | exact rfl) | first | assumption | exact g1.2 _ _ _ rfl | exact qb _ (by omega) | exact e54 | exact e51 | exact rfl)) (k := ?_)
          refine r_callv (j2 := 234) hm rfl rfl rfl rfl rfl rfl (by first | assumption | exact (g1.1 _).trans rfl) (Nat.le_of_ble_eq_true rfl) (Nat.le_of_ble_eq_true rfl) rfl ⟨Nat.le_of_ble_eq_true rfl, Nat.le_of_ble_eq_true rfl, Nat.le_of_ble_eq_true rfl, Nat.le_of_ble_eq_true rfl, Nat.le_of_ble_eq_true rfl⟩ rfl (m_fails Q1) (fun v9 h9 p9 => ?_)
          obtain ⟨e1, e2⟩ := p9
          subst e2
          subst e1
          change RN 229 46 _ _ _ 0 0 _
          dsimp only [Option.toList, List.cons_append, List.nil_append]
          refine r_ireturn hm rfl rfl (by rfl) (Nat.le_of_ble_eq_true rfl) (Nat.le_of_ble_eq_true rfl) ?_
          have ct1 : s.2.2.2.2.1 2 ≠ 0 := by omega
          have eB : bgc b n s 2 = adv b n (stC (s.1, 3, (s.1 : Int), s.2.2.2.1, s.2.2.2.2.1, s.2.2.2.2.2) 2 1) := by unfold bgc; rw [if_pos ct1, nt_0 f0]
          obtain ⟨g1_, g2_⟩ : (bgc b n s 2).2.1 = 3 ∧ (bgc b n s 2).2.2.1 = (s.1 : Int) := by rw [eB]; exact ⟨rfl, rfl⟩
          obtain ⟨a1, a2⟩ := fz_tcD (b := b) (n := n) (s := bgc b n s 2) (i := 4) (k := 11) (by rw [g1_]; decide)
          have gA : (tcD b n (bgc b n s 2) 4 11).2.1 = 3 ∧ (tcD b n (bgc b n s 2) 4 11).2.2.1 = (s.1 : Int) := ⟨by rw [a1, g1_], by rw [a2, g2_]⟩
          obtain ⟨t1, t2⟩ := fz_tsm (b := b) (n := n) (s := tcD b n (bgc b n s 2) 4 11) (by rw [gA.1]; decide)
          refine ⟨SmL.put S1 (by omega), 3, rfl, ⟨?_, ?_, fun z => absurd z (by decide)⟩, fun z => absurd z (by decide)⟩
          · rw [ePcl0, t1, gA.1]
          · rw [ePcl0, t2, gA.2]; exact putI_eq
    · exfalso; omega
  · have ePcl0 : pcl b n s = tsm b n (tcD b n (bgc b n s 3) 7 12) := by unfold pcl; rw [if_neg (by rw [i0]; decide), if_neg (by rw [i2]; decide), if_neg (by rw [i3]; decide), if_neg (by rw [i5]; decide), if_pos i6]
    have tk1 := isW_tk i6
    have okX0 : okR b n (tcD b n (bgc b n s 3) 7 12) := okR.m_tcD (okR.m_bgc ok) (by omega)
    rw [(wE_tk ok.1).1 tk1] at e54
    refine r_iload_n hm rfl (k := ?_)
    refine r_if_ge (t := 23) hm rfl rfl (fun c10 => ?_) (fun c10 => ?_)
    · refine r_iload_n hm rfl (k := ?_)
      refine r_iconst hm rfl (k := ?_)
      refine r_icmp_eq (t := 47) hm rfl rfl (fun c25 => ?_) (fun c25 => ?_)
      · exfalso; omega
      · refine r_iload_n hm rfl (k := ?_)
        refine r_iload_n hm rfl (k := ?_)
        refine r_ishr hm rfl (k := ?_)
        refine r_iconst hm rfl (k := ?_)
        refine r_iand hm rfl (k := ?_)
        show RN 229 33 _ (.inl (sBt (sn s.2.2.2.2.1 s.2.2.2.2.2) 4) :: _) _ _ _ _
        rw [sb3]
        refine r_iconst hm rfl (k := ?_)
        refine r_icmp_ne (t := 47) hm rfl rfl (fun c34 => ?_) (fun c34 => ?_)
        · refine r_aload_n hm rfl (k := ?_)
          refine r_aload_n hm rfl (k := ?_)
          refine r_getI (hm := hm) (hf := rfl) (hd := rfl) (hs := (by first | assumption | exact (g1.1 _).trans rfl)) (hv := (by first | exact putI_eq | exact (putI_ne (by omega)).trans (by first | exact putI_eq | exact (putI_ne (by omega)).trans (by first | first | assumption | exact g1.2 _ _ _ rfl | exact qb _ (by omega) | exact e54 | exact e51 | exact rfl) | first | assumption | exact g1.2 _ _ _ rfl | exact qb _ (by omega) | exact e54 | exact e51 | exact rfl) | first | assumption | exact g1.2 _ _ _ rfl | exact qb _ (by omega) | exact e54 | exact e51 | exact rfl)) (k := ?_)
          refine r_putI (hm := hm) (hf := rfl) (hd := rfl) (hs := (by first | assumption | exact (g1.1 _).trans rfl)) (hfin := Or.inl rfl) (hz := fun q9 => absurd q9 (by decide)) (k := ?_)
          refine r_iconst hm rfl (k := ?_)
          refine r_istore_n hm rfl (k := ?_)
          refine r_aload_n hm rfl (k := ?_)
          refine r_iconst hm rfl (k := ?_)
          refine r_iload_n hm rfl (k := ?_)
          refine r_ishl hm rfl (k := ?_)
          refine r_putI (hm := hm) (hf := rfl) (hd := rfl) (hs := (by first | assumption | exact (g1.1 _).trans rfl)) (hfin := Or.inl rfl) (hz := fun q9 => absurd q9 (by decide)) (k := ?_)
          have S2 : SmL (fun a k => (a = 1085 ∧ (k = 50 ∨ k = 51 ∨ k = 54 ∨ k = 55 ∨ k = 56)) ∨ a = 1126) h (putI (putI hA 1085 51 ((tez b n s.1 : Nat) : Int)) 1085 56 (op2 (fun a b => a <<< (b &&& 31)) 1 4)) := SmL.put (SmL.put S1 (by omega)) (by omega)
          have Q2 := Q.fr S2 (fun a k z => by omega)
          obtain ⟨g1, ql, qn, qb, qr⟩ := id Q2
          have p51 : (putI (putI hA 1085 51 ((tez b n s.1 : Nat) : Int)) 1085 56 (op2 (fun a b => a <<< (b &&& 31)) 1 4)).2.1 1085 51 = ((tez b n s.1 : Nat) : Int) := by rw [putI_ne (by omega), putI_eq]
          have ct0 : s.2.2.2.2.1 3 = 0 := by have := ok.2.2.2.2.2.1 3; omega
          have eB : bgc b n s 3 = adv b n (stC s 3 1) := by unfold bgc; rw [if_neg (fun z => z ct0)]
          obtain ⟨s1, es1⟩ : ∃ s1, (bgc b n s 3) = s1 := ⟨_, rfl⟩
          rw [es1] at ePcl0 okX0
          have ok1 : okR b n s1 := by rw [← es1]; exact okR.m_bgc ok
          have ps1 : sk b n (tez b n s.1) = s1.1 := by rw [← es1, eB]; rfl
          have fs1 : s1.2.1 = 0 := by rw [← es1, eB]; exact f0
          have as1 : s1.2.2.1 = s.2.2.1 := by rw [← es1, eB]; rfl
          have ds1 : s1.2.2.2.1 = s.2.2.2.1 := by rw [← es1, eB]; rfl
          have cs1 : s1.2.2.2.2.1 = upf s.2.2.2.2.1 3 1 := by rw [← es1, eB]; rfl
          have ls1 : s1.2.2.2.2.2 = s.2.2.2.2.2 := by rw [← es1, eB]; rfl
          have f50 : (putI (putI hA 1085 51 ((tez b n s.1 : Nat) : Int)) 1085 56 (op2 (fun a b => a <<< (b &&& 31)) 1 4)).2.1 1085 50 = s1.2.2.1 := by rw [putI_ne (by omega), putI_ne (by omega), as1]; exact a50
          have fFr : ∀ k, k < 13 → (putI (putI hA 1085 51 ((tez b n s.1 : Nat) : Int)) 1085 56 (op2 (fun a b => a <<< (b &&& 31)) 1 4)).2.1 1126 k = s1.2.2.2.1 k := fun k hk => by rw [putI_ne (by omega), putI_ne (by omega), ds1]; exact aFr k hk
          have h56 : (putI (putI hA 1085 51 ((tez b n s.1 : Nat) : Int)) 1085 56 (op2 (fun a b => a <<< (b &&& 31)) 1 4)).2.1 1085 56 = op2 (fun a b => a <<< (b &&& 31)) 1 4 := putI_eq
          refine r_iload_n hm rfl (k := ?_)
          refine r_if_ne (t := 76) hm rfl rfl (fun c65 => ?_) (fun c65 => ?_)
          · refine r_iload_n hm rfl (k := ?_)
            refine r_iconst hm rfl (k := ?_)
            refine r_icmp_ne (t := 103) hm rfl rfl (fun c78 => ?_) (fun c78 => ?_)
            · refine r_aload_n hm rfl (k := ?_)
              refine r_lconst hm rfl (k := ?_)
              refine r_bipush hm rfl (k := ?_)
              refine r_bipush hm rfl (k := ?_)
              refine r_iconst hm rfl (k := ?_)
              refine r_iconst hm rfl (k := ?_)
              refine r_calls (j2 := 232) hm rfl rfl rfl rfl rfl rfl (Nat.le_of_ble_eq_true rfl) (Nat.le_of_ble_eq_true rfl) rfl ⟨Nat.le_of_ble_eq_true rfl, Nat.le_of_ble_eq_true rfl, Nat.le_of_ble_eq_true rfl, Nat.le_of_ble_eq_true rfl, Nat.le_of_ble_eq_true rfl⟩ rfl (m_codeX (x := Int64.ofInt (cdW 9)) (by decide +kernel)) (fun v9 h9 p9 => ?_)
              obtain ⟨e1, e2⟩ := p9
              subst e2
              replace e1 := e1.symm
              subst e1
              change RN 229 114 _ _ _ 0 0 _
              dsimp only [Option.toList, List.cons_append, List.nil_append]
              refine r_iload_n hm rfl (k := ?_)
              refine r_iconst hm rfl (k := ?_)
              refine r_icmp_ne (t := 133) hm rfl rfl (fun c116 => ?_) (fun c116 => ?_)
              · exfalso; omega
              · refine r_lconst hm rfl (k := ?_)
                refine r_bipush hm rfl (k := ?_)
                refine r_bipush hm rfl (k := ?_)
                refine r_bipush hm rfl (k := ?_)
                refine r_iconst hm rfl (k := ?_)
                refine r_calls (j2 := 232) hm rfl rfl rfl rfl rfl rfl (Nat.le_of_ble_eq_true rfl) (Nat.le_of_ble_eq_true rfl) rfl ⟨Nat.le_of_ble_eq_true rfl, Nat.le_of_ble_eq_true rfl, Nat.le_of_ble_eq_true rfl, Nat.le_of_ble_eq_true rfl, Nat.le_of_ble_eq_true rfl⟩ rfl (m_codeX (x := Int64.ofInt (cdW 7)) (by decide +kernel)) (fun v9 h9 p9 => ?_)
                obtain ⟨e1, e2⟩ := p9
                subst e2
                replace e1 := e1.symm
                subst e1
                change RN 229 130 _ _ _ 0 0 _
                dsimp only [Option.toList, List.cons_append, List.nil_append]
                refine r_goto (t := 145) hm rfl (k := ?_)
                refine r_ldc2 hm rfl (hd := rfl) (k := ?_)
                refine r_callv (j2 := 237) hm rfl rfl rfl rfl rfl rfl (by first | assumption | exact (g1.1 _).trans rfl) (Nat.le_of_ble_eq_true rfl) (Nat.le_of_ble_eq_true rfl) rfl ⟨Nat.le_of_ble_eq_true rfl, Nat.le_of_ble_eq_true rfl, Nat.le_of_ble_eq_true rfl, Nat.le_of_ble_eq_true rfl, Nat.le_of_ble_eq_true rfl⟩ rfl (m_oneX Q2 p51 te2 (a1 := cdW 9) (a2 := cdW 7) (a3 := -1) rfl rfl (by decide +kernel) (c9 9 (by omega)) (c9 7 (by omega)) (by omega)) (fun v9 hB_ p9 => ?_)
                obtain ⟨SB, e51, e1⟩ := p9
                subst e1
                rw [ps1] at e51
                rw [ps1]
                have ps1n := ok1.1
                have wr1 := wC_rng (b := b) ps1n
                rw [oneK2 wr1.1 (wd_let (i := 9) (by omega)).2.1 (wd_let (i := 7) (by omega)).2.1] at e51
                rw [oneK2 wr1.1 (wd_let (i := 9) (by omega)).2.1 (wd_let (i := 7) (by omega)).2.1]
                have S3 := S2.trans (SB.mono (T := (fun a k => (a = 1085 ∧ (k = 50 ∨ k = 51 ∨ k = 54 ∨ k = 55 ∨ k = 56)) ∨ a = 1126)) (fun a k z => by omega))
                have Q3 := Q.fr S3 (fun a k z => by omega)
                obtain ⟨g1, ql, qn, qb, qr⟩ := id Q3
                have w9i := wC_is (b := b) (i := 9) ps1n (by omega)
                have wXi := wC_is (b := b) (i := 7) ps1n (by omega)
                have nd : cdW 9 ≠ cdW 7 := by decide +kernel
                have b50 : hB_.2.1 1085 50 = s1.2.2.1 := (SB.2.2 _ _ (by omega)).trans f50
                have bFr : ∀ k, k < 13 → hB_.2.1 1126 k = s1.2.2.2.1 k := fun k hk => (SB.2.2 _ _ (by omega)).trans (fFr k hk)
                have b56 : hB_.2.1 1085 56 = op2 (fun a b => a <<< (b &&& 31)) 1 4 := (SB.2.2 _ _ (by omega)).trans h56
                have hck : ((if wC b n s1.1 = cdW 9 then (0 : Int) else if wC b n s1.1 = cdW 7 then 1 else -1) = -1 ∧ tch b n s1 7 = (nt s1 1, 0)) ∨ (0 ≤ (if wC b n s1.1 = cdW 9 then (0 : Int) else if wC b n s1.1 = cdW 7 then 1 else -1) ∧ (if wC b n s1.1 = cdW 9 then (0 : Int) else if wC b n s1.1 = cdW 7 then 1 else -1) ≤ 1 ∧ tch b n s1 7 = (adv b n s1, if wC b n s1.1 = cdW 9 then (0 : Int) else if wC b n s1.1 = cdW 7 then 1 else -1) ∧ tkz b n s1.1 = 1) := by
                  unfold tch twd
                  by_cases z9 : wC b n s1.1 = cdW 9
                  · right
                    have jX : ¬ isW b n s1.1 7 = true := fun z => nd (by rw [← z9, wXi.mpr z])
                    rw [if_pos z9, if_neg jX, if_pos (w9i.mp z9)]
                    exact ⟨by omega, by omega, rfl, isW_tk (w9i.mp z9)⟩
                  · have j9 : ¬ isW b n s1.1 9 = true := fun z => z9 (w9i.mpr z)
                    by_cases zX : wC b n s1.1 = cdW 7
                    · right
                      rw [if_neg z9, if_pos zX, if_pos (wXi.mp zX)]
                      exact ⟨by omega, by omega, rfl, isW_tk (wXi.mp zX)⟩
                    · left
                      rw [if_neg z9, if_neg zX, if_neg (fun z => zX (wXi.mpr z)), if_neg j9]
                      exact ⟨rfl, rfl⟩
                obtain ⟨y9, ey9⟩ : ∃ y9, (if wC b n s1.1 = cdW 9 then (0 : Int) else if wC b n s1.1 = cdW 7 then 1 else -1) = y9 := ⟨_, rfl⟩
                rw [ey9] at e51 hck
                rw [ey9]
                have ebody : tcD b n s1 7 12 = stD (tch b n s1 7).1 12 (tch b n s1 7).2 := rfl
                change RN 229 151 _ _ _ 0 0 _
                dsimp only [Option.toList, List.cons_append, List.nil_append]
                refine r_istore hm rfl (k := ?_)
                refine r_iload hm rfl (k := ?_)
                refine r_if_ge (t := 168) hm rfl rfl (fun c155 => ?_) (fun c155 => ?_)
                · refine r_aload_n hm rfl (k := ?_)
                  refine r_getR (hm := hm) (hf := rfl) (hd := rfl) (hs := (by first | assumption | exact (g1.1 _).trans rfl)) (hv := (by first | exact putI_eq | exact (putI_ne (by omega)).trans (by first | exact putI_eq | exact (putI_ne (by omega)).trans (by first | first | assumption | exact g1.2 _ _ _ rfl | exact qb _ (by omega) | exact e54 | exact e51 | exact rfl) | first | assumption | exact g1.2 _ _ _ rfl | exact qb _ (by omega) | exact e54 | exact e51 | exact rfl) | first | assumption | exact g1.2 _ _ _ rfl | exact qb _ (by omega) | exact e54 | exact e51 | exact rfl)) (k := ?_)
                  refine r_bipush hm rfl (k := ?_)
                  refine r_iload_n hm rfl (k := ?_)
                  refine r_iadd hm rfl (hr := (by omega)) (k := ?_)
                  refine r_iconst hm rfl (k := ?_)
                  refine r_isub hm rfl (hr := (by omega)) (k := ?_)
                  refine r_iload hm rfl (k := ?_)
                  refine r_iast (hm := hm) (hf := rfl) (h28 := (by omega)) (hs := (by first | assumption | exact (g1.1 _).trans rfl)) (kk := 12) (hi := by omega) (hn := (by omega)) (k := ?_)
                  obtain ⟨y1, y2, eF, tkn⟩ : 0 ≤ y9 ∧ y9 ≤ 1 ∧ tch b n s1 7 = (adv b n s1, y9) ∧ tkz b n s1.1 = 1 := by
                    rcases hck with z | z
                    · exfalso; omega
                    · exact z
                  rw [if_neg (by omega), (wE_tk ps1n).1 tkn] at e51
                  obtain ⟨te5, te6, te7⟩ := tez_rng (b := b) ps1n
                  rw [eF] at ebody
                  obtain ⟨X9, eX9⟩ : ∃ X9, stD (adv b n s1) 12 y9 = X9 := ⟨_, rfl⟩
                  rw [ebody] at okX0 ePcl0
                  dsimp only at okX0 ePcl0
                  rw [eX9] at okX0 ePcl0
                  have ePcl := ePcl0
                  have okX := okX0
                  refine RN.abs (fun hC => SmL (fun a k => (a = 1085 ∧ (k = 50 ∨ k = 51 ∨ k = 54 ∨ k = 55 ∨ k = 56)) ∨ a = 1126) h hC ∧ RsM b n hC 0 X9 ∧ hC.2.1 1085 56 = op2 (fun a b => a <<< (b &&& 31)) 1 4) ⟨SmL.put S3 (by omega), ⟨by rw [← eX9]; exact fs1.symm, by rw [putI_ne (by omega), ← eX9]; exact b50, fun z => ⟨tez b n s1.1, by rw [putI_ne (by omega)]; exact e51, te6, by rw [← eX9]; rfl, fun q hq => ?_⟩⟩, by rw [putI_ne (by omega)]; exact b56⟩ (fun hC H9 => ?_)
                  · rw [← eX9]
                    show _ = upf s1.2.2.2.1 12 y9 q
                    by_cases e : q = 12
                    · rw [e, putI_eq, upf_eq]
                    · rw [putI_ne (by omega), upf_ne e]; exact bFr q hq
                  obtain ⟨S4, Rs, c56⟩ := H9
                  have QC := Q.fr S4 (fun a k z => by omega)
                  obtain ⟨g1, ql, qn, qb, qr⟩ := id QC
                  have hct : X9.2.2.2.2.1 = s1.2.2.2.2.1 ∧ X9.2.2.2.2.2 = s1.2.2.2.2.2 := by rw [← eX9]; exact ⟨rfl, rfl⟩
                  have eSeen : op2 (· ||| ·) (sn s.2.2.2.2.1 s.2.2.2.2.2) (op2 (fun a b => a <<< (b &&& 31)) 1 4) = sn X9.2.2.2.2.1 X9.2.2.2.2.2 := by rw [hct.1, hct.2, cs1, ls1]; exact so3
                  refine r_iload_n hm rfl (k := ?_)
                  refine r_if_le (t := 187) hm rfl rfl (fun c182 => ?_) (fun c182 => ?_)
                  · obtain ⟨p2, r51, rpn, rsk, rfr⟩ := Rs.2.2 rfl
                    have pXn := okX.1
                    refine r_aload_n hm rfl (k := ?_)
                    refine r_callv (j2 := 228) hm rfl rfl rfl rfl rfl rfl (by first | assumption | exact (g1.1 _).trans rfl) (Nat.le_of_ble_eq_true rfl) (Nat.le_of_ble_eq_true rfl) rfl ⟨Nat.le_of_ble_eq_true rfl, Nat.le_of_ble_eq_true rfl, Nat.le_of_ble_eq_true rfl, Nat.le_of_ble_eq_true rfl, Nat.le_of_ble_eq_true rfl⟩ rfl (m_here QC r51 rpn) (fun v9 hD p9 => ?_)
                    obtain ⟨SD, d51, e1⟩ := p9
                    subst e1
                    rw [rsk] at d51
                    rw [rsk]
                    have S5 := S4.trans (SD.mono (T := (fun a k => (a = 1085 ∧ (k = 50 ∨ k = 51 ∨ k = 54 ∨ k = 55 ∨ k = 56)) ∨ a = 1126)) (fun a k z => by omega))
                    have Q5 := Q.fr S5 (fun a k z => by omega)
                    obtain ⟨g1, ql, qn, qb, qr⟩ := id Q5
                    have d56 : hD.2.1 1085 56 = _ := (SD.2.2 _ _ (by omega)).trans c56
                    have d50 : hD.2.1 1085 50 = X9.2.2.1 := (SD.2.2 _ _ (by omega)).trans Rs.2.1
                    have hq9 := hr59 (b := b) (n := n) (P := X9.1)
                    change RN 229 191 _ _ _ 0 0 _
                    dsimp only [Option.toList, List.cons_append, List.nil_append]
                    refine r_bipush hm rfl (k := ?_)
                    refine r_icmp_eq (t := 206) hm rfl rfl (fun c193 => ?_) (fun c193 => ?_)
                    · refine r_aload_n hm rfl (k := ?_)
                      refine r_dup hm rfl (k := ?_)
                      refine r_getI (hm := hm) (hf := rfl) (hd := rfl) (hs := (by first | assumption | exact (g1.1 _).trans rfl)) (hv := (by first | exact putI_eq | exact (putI_ne (by omega)).trans (by first | exact putI_eq | exact (putI_ne (by omega)).trans (by first | first | assumption | exact g1.2 _ _ _ rfl | exact qb _ (by omega) | exact e54 | exact e51 | exact rfl) | first | assumption | exact g1.2 _ _ _ rfl | exact qb _ (by omega) | exact e54 | exact e51 | exact rfl) | first | assumption | exact g1.2 _ _ _ rfl | exact qb _ (by omega) | exact e54 | exact e51 | exact rfl)) (k := ?_)
                      refine r_iconst hm rfl (k := ?_)
                      refine r_iadd hm rfl (hr := (by omega)) (k := ?_)
                      refine r_putI (hm := hm) (hf := rfl) (hd := rfl) (hs := (by first | assumption | exact (g1.1 _).trans rfl)) (hfin := Or.inl rfl) (hz := fun q9 => absurd q9 (by decide)) (k := ?_)
                      refine r_iconst hm rfl (k := ?_)
                      refine r_ireturn hm rfl rfl (by rfl) (Nat.le_of_ble_eq_true rfl) (Nat.le_of_ble_eq_true rfl) ?_
                      have f9 : X9.2.1 = 0 := Rs.1.symm
                      have t3 : tkz b n X9.1 = 3 := hq9.mp c193
                      have eS : tsm b n X9 = adv b n X9 := by unfold tsm; rw [if_neg (fun z => z t3)]
                      have hl : X9.1 < n := by
                        apply Decidable.byContradiction
                        intro z
                        unfold tkz at t3
                        rw [if_neg z] at t3
                        omega
                      have eT : tez b n X9.1 = X9.1 + 1 := by unfold tez; rw [if_pos hl, if_neg (by omega)]
                      refine ⟨SmL.put S5 (by omega), 0, rfl, ⟨?_, ?_, fun _ => ⟨X9.1 + 1, putI_eq, by omega, ?_, fun k hk => ?_⟩⟩, fun _ => ?_⟩
                      · rw [ePcl, eS]; exact f9.symm
                      · rw [ePcl, eS, putI_ne (by omega)]; exact d50
                      · rw [ePcl, eS, ← eT]; rfl
                      · rw [ePcl, eS, putI_ne (by omega), SD.2.2 _ _ (by omega)]; exact rfr k hk
                      · rw [ePcl, eS, putI_ne (by omega), d56]; exact eSeen 
                    · refine r_aload_n hm rfl (k := ?_)
                      refine r_iconst hm rfl (k := ?_)
                      refine r_aload_n hm rfl (k := ?_)
                      refine r_getI (hm := hm) (hf := rfl) (hd := rfl) (hs := (by first | assumption | exact (g1.1 _).trans rfl)) (hv := (by first | exact putI_eq | exact (putI_ne (by omega)).trans (by first | exact putI_eq | exact (putI_ne (by omega)).trans (by first | first | assumption | exact g1.2 _ _ _ rfl | exact qb _ (by omega) | exact e54 | exact e51 | exact rfl) | first | assumption | exact g1.2 _ _ _ rfl | exact qb _ (by omega) | exact e54 | exact e51 | exact rfl) | first | assumption | exact g1.2 _ _ _ rfl | exact qb _ (by omega) | exact e54 | exact e51 | exact rfl)) (k := ?_)
                      refine r_callv (j2 := 234) hm rfl rfl rfl rfl rfl rfl (by first | assumption | exact (g1.1 _).trans rfl) (Nat.le_of_ble_eq_true rfl) (Nat.le_of_ble_eq_true rfl) rfl ⟨Nat.le_of_ble_eq_true rfl, Nat.le_of_ble_eq_true rfl, Nat.le_of_ble_eq_true rfl, Nat.le_of_ble_eq_true rfl, Nat.le_of_ble_eq_true rfl⟩ rfl (m_fails Q5) (fun v9 h9 p9 => ?_)
                      obtain ⟨e1, e2⟩ := p9
                      subst e2
                      subst e1
                      change RN 229 205 _ _ _ 0 0 _
                      dsimp only [Option.toList, List.cons_append, List.nil_append]
                      refine r_ireturn hm rfl rfl (by rfl) (Nat.le_of_ble_eq_true rfl) (Nat.le_of_ble_eq_true rfl) ?_
                      have f9 : X9.2.1 = 0 := Rs.1.symm
                      have eS : tsm b n X9 = (X9.1, 1, (X9.1 : Int), X9.2.2.2.1, X9.2.2.2.2.1, X9.2.2.2.2.2) := by
                        unfold tsm
                        rw [if_pos (fun z => c193 (hq9.mpr z)), nt_0 f9]
                      refine ⟨SmL.put S5 (by omega), 1, rfl, ⟨?_, ?_, fun z => absurd z (by decide)⟩, fun z => absurd z (by decide)⟩
                      · rw [ePcl, eS]
                      · rw [ePcl, eS]; exact putI_eq
                  · exfalso; omega
                · refine r_aload_n hm rfl (k := ?_)
                  refine r_iconst hm rfl (k := ?_)
                  refine r_aload_n hm rfl (k := ?_)
                  refine r_getI (hm := hm) (hf := rfl) (hd := rfl) (hs := (by first | assumption | exact (g1.1 _).trans rfl)) (hv := (by first | exact putI_eq | exact (putI_ne (by omega)).trans (by first | exact putI_eq | exact (putI_ne (by omega)).trans (by first | first | assumption | exact g1.2 _ _ _ rfl | exact qb _ (by omega) | exact e54 | exact e51 | exact rfl) | first | assumption | exact g1.2 _ _ _ rfl | exact qb _ (by omega) | exact e54 | exact e51 | exact rfl) | first | assumption | exact g1.2 _ _ _ rfl | exact qb _ (by omega) | exact e54 | exact e51 | exact rfl)) (k := ?_)
                  refine r_callv (j2 := 234) hm rfl rfl rfl rfl rfl rfl (by first | assumption | exact (g1.1 _).trans rfl) (Nat.le_of_ble_eq_true rfl) (Nat.le_of_ble_eq_true rfl) rfl ⟨Nat.le_of_ble_eq_true rfl, Nat.le_of_ble_eq_true rfl, Nat.le_of_ble_eq_true rfl, Nat.le_of_ble_eq_true rfl, Nat.le_of_ble_eq_true rfl⟩ rfl (m_fails Q3) (fun v9 h9 p9 => ?_)
                  obtain ⟨e1, e2⟩ := p9
                  subst e2
                  subst e1
                  change RN 229 167 _ _ _ 0 0 _
                  dsimp only [Option.toList, List.cons_append, List.nil_append]
                  refine r_ireturn hm rfl rfl (by rfl) (Nat.le_of_ble_eq_true rfl) (Nat.le_of_ble_eq_true rfl) ?_
                  have eF : tch b n s1 7 = (nt s1 1, 0) := by
                    rcases hck with z | z
                    · exact z.2
                    · exfalso; omega
                  have eN : nt s1 1 = (s1.1, 1, (s1.1 : Int), s1.2.2.2.1, s1.2.2.2.2.1, s1.2.2.2.2.2) := nt_0 fs1
                  rw [eF, eN] at ebody
                  rw [ebody] at ePcl0
                  obtain ⟨t1, t2⟩ := fz_tsm (b := b) (n := n) (s := stD (s1.1, 1, (s1.1 : Int), s1.2.2.2.1, s1.2.2.2.2.1, s1.2.2.2.2.2) 12 0) (by show (1 : Int) ≠ 0; decide)
                  refine ⟨SmL.put S3 (by omega), 1, rfl, ⟨?_, ?_, fun z => absurd z (by decide)⟩, fun z => absurd z (by decide)⟩
                  · rw [ePcl0, t1]; rfl
                  · rw [ePcl0, t2]; rw [putI_eq, if_pos (by omega)]; rfl
            · exfalso; omega
          · exfalso; omega
        · refine r_aload_n hm rfl (k := ?_)
          refine r_iconst hm rfl (k := ?_)
          refine r_aload_n hm rfl (k := ?_)
          refine r_getI (hm := hm) (hf := rfl) (hd := rfl) (hs := (by first | assumption | exact (g1.1 _).trans rfl)) (hv := (by first | exact putI_eq | exact (putI_ne (by omega)).trans (by first | exact putI_eq | exact (putI_ne (by omega)).trans (by first | first | assumption | exact g1.2 _ _ _ rfl | exact qb _ (by omega) | exact e54 | exact e51 | exact rfl) | first | assumption | exact g1.2 _ _ _ rfl | exact qb _ (by omega) | exact e54 | exact e51 | exact rfl) | first | assumption | exact g1.2 _ _ _ rfl | exact qb _ (by omega) | exact e54 | exact e51 | exact rfl)) (k := ?_)
          refine r_callv (j2 := 234) hm rfl rfl rfl rfl rfl rfl (by first | assumption | exact (g1.1 _).trans rfl) (Nat.le_of_ble_eq_true rfl) (Nat.le_of_ble_eq_true rfl) rfl ⟨Nat.le_of_ble_eq_true rfl, Nat.le_of_ble_eq_true rfl, Nat.le_of_ble_eq_true rfl, Nat.le_of_ble_eq_true rfl, Nat.le_of_ble_eq_true rfl⟩ rfl (m_fails Q1) (fun v9 h9 p9 => ?_)
          obtain ⟨e1, e2⟩ := p9
          subst e2
          subst e1
          change RN 229 46 _ _ _ 0 0 _
          dsimp only [Option.toList, List.cons_append, List.nil_append]
          refine r_ireturn hm rfl rfl (by rfl) (Nat.le_of_ble_eq_true rfl) (Nat.le_of_ble_eq_true rfl) ?_
          have ct1 : s.2.2.2.2.1 3 ≠ 0 := by omega
          have eB : bgc b n s 3 = adv b n (stC (s.1, 3, (s.1 : Int), s.2.2.2.1, s.2.2.2.2.1, s.2.2.2.2.2) 3 1) := by unfold bgc; rw [if_pos ct1, nt_0 f0]
          obtain ⟨g1_, g2_⟩ : (bgc b n s 3).2.1 = 3 ∧ (bgc b n s 3).2.2.1 = (s.1 : Int) := by rw [eB]; exact ⟨rfl, rfl⟩
          obtain ⟨a1, a2⟩ := fz_tcD (b := b) (n := n) (s := bgc b n s 3) (i := 7) (k := 12) (by rw [g1_]; decide)
          have gA : (tcD b n (bgc b n s 3) 7 12).2.1 = 3 ∧ (tcD b n (bgc b n s 3) 7 12).2.2.1 = (s.1 : Int) := ⟨by rw [a1, g1_], by rw [a2, g2_]⟩
          obtain ⟨t1, t2⟩ := fz_tsm (b := b) (n := n) (s := tcD b n (bgc b n s 3) 7 12) (by rw [gA.1]; decide)
          refine ⟨SmL.put S1 (by omega), 3, rfl, ⟨?_, ?_, fun z => absurd z (by decide)⟩, fun z => absurd z (by decide)⟩
          · rw [ePcl0, t1, gA.1]
          · rw [ePcl0, t2, gA.2]; exact putI_eq
    · exfalso; omega
