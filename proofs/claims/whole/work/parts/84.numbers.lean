/-! the style read: the reference, words and numbers -/
def SmL (S : Nat → Nat → Prop) (h h2 : Hp) : Prop := h2.1 = h.1 ∧ h2.2.2.1 = h.2.2.1 ∧ ∀ a k, ¬ S a k → h2.2.1 a k = h.2.1 a k
theorem SmL.refl {S : Nat → Nat → Prop} {h : Hp} : SmL S h h := ⟨rfl, rfl, fun _ _ _ => rfl⟩
theorem SmL.trans {S : Nat → Nat → Prop} {h h2 h3 : Hp} (p : SmL S h h2) (q : SmL S h2 h3) : SmL S h h3 := ⟨q.1.trans p.1, q.2.1.trans p.2.1, fun a k n => (q.2.2 a k n).trans (p.2.2 a k n)⟩
theorem SmL.mono {S T : Nat → Nat → Prop} {h h2 : Hp} (p : SmL S h h2) (q : ∀ a k, S a k → T a k) : SmL T h h2 := ⟨p.1, p.2.1, fun a k n => p.2.2 a k (fun z => n (q a k z))⟩
theorem SmL.put {S : Nat → Nat → Prop} {h h2 : Hp} {a i : Nat} {v : Int} (p : SmL S h h2) (q : S a i) : SmL S h (putI h2 a i v) := ⟨p.1, p.2.1, fun c k n => (putI_ne (by
  apply Decidable.byContradiction
  intro z
  have z2 : c = a ∧ k = i := by omega
  exact n (by rw [z2.1, z2.2]; exact q))).trans (p.2.2 c k n)⟩
theorem SmL.putl {S : Nat → Nat → Prop} {h h2 : Hp} {a i : Nat} {v : Int64} (p : SmL S h h2) : SmL S h (putL h2 a i v) := p
theorem SmL.gg {S : Nat → Nat → Prop} {L : Nat} {h h2 : Hp} (p : SmL S h h2) (g : GG L h) : GG L h2 := ⟨fun a => by rw [p.1]; exact g.1 a, fun a k b q => by rw [p.2.1]; exact g.2 a k b q⟩
def MQr (L : Nat) (h : Hp) (b : Nat → Int) (n : Nat) : Prop := GG L h ∧ h.2.1 1085 49 = (n : Int) ∧ n ≤ 160 ∧ (∀ k, k < n → h.2.1 1125 k = b k) ∧ ∀ k, k < n → 0 ≤ b k ∧ b k ≤ 255
theorem MQr.fr {L : Nat} {h h2 : Hp} {b : Nat → Int} {n : Nat} {S : Nat → Nat → Prop} (Q : MQr L h b n) (m : SmL S h h2) (hS : ∀ a k, S a k → (a = 1085 ∧ 50 ≤ k) ∨ a = 1126) : MQr L h2 b n := by
  obtain ⟨g1, ql, qn, qb, qr⟩ := Q
  refine ⟨m.gg g1, ?_, qn, fun k hk => ?_, qr⟩
  · rw [m.2.2 _ _ (fun z => by have := hS _ _ z; omega)]; exact ql
  · rw [m.2.2 _ _ (fun z => by have := hS _ _ z; omega)]; exact qb k hk
def hr9 (b : Nat → Int) (n P : Nat) : Int := if P < n then b P else -1
theorem wstep {w c : Int} (hc : inI c) : (27 : Int64) * Int64.ofInt w + (Int32.ofInt c).toInt64 - 96 = Int64.ofInt (27 * w + c - 96) := by
  rw [i2l_o hc, Int64.ofInt_sub, Int64.ofInt_add, Int64.ofInt_mul]
  rfl
def oneK (w a b c : Int) : Int := if w = 0 then -1 else if w = a then 0 else if w = b then 1 else if w = c then 2 else -1
def keyK (w : Int) : Int := if w = cdW 0 then 0 else if w = cdW 2 then 1 else if w = cdW 3 then 2 else if w = cdW 5 then 3 else if w = cdW 6 then 4 else -1
set_option maxRecDepth 8000 in
theorem m_here {L : Nat} {h : Hp} {b : Nat → Int} {n : Nat} (Q : MQr L h b n) {p : Nat} (hp : h.2.1 1085 51 = (p : Int)) (hpn : p ≤ n) : RN 228 0 [some (.inr (.inr (some (1085))))] [] h 0 0 (fun v h2 => SmL (fun a k => a = 1085 ∧ k = 51) h h2 ∧ h2.2.1 1085 51 = ((sk b n p : Nat) : Int) ∧ v = some (.inl (hr9 b n (sk b n p)))) := by
  have hm : mrec 228 = some nM228 := rfl
  suffices LP : ∀ (d p2 : Nat) (h1 : Hp), p2 + d = n → SmL (fun a k => a = 1085 ∧ k = 51) h h1 → h1.2.1 1085 51 = (p2 : Int) → sk b n p2 = sk b n p → RN 228 0 [some (.inr (.inr (some (1085))))] [] h1 0 0 (fun v h2 => SmL (fun a k => a = 1085 ∧ k = 51) h h2 ∧ h2.2.1 1085 51 = ((sk b n p : Nat) : Int) ∧ v = some (.inl (hr9 b n (sk b n p)))) from LP (n - p) p h (by omega) SmL.refl hp rfl
  refine fun d => Nat.strongRecOn d (fun d ih => ?_)
  intro p2 h1 hd S1 e5 eP
  have Q1 := Q.fr S1 (fun a k z => by omega)
  obtain ⟨g1, ql, qn, qb, qr⟩ := id Q1
  refine r_aload_n hm rfl (k := ?_)
  refine r_getI (hm := hm) (hf := rfl) (hd := rfl) (hs := (by first | assumption | exact (g1.1 _).trans rfl)) (hv := (by first | exact putI_eq | exact (putI_ne (by omega)).trans (by first | exact putI_eq | exact (putI_ne (by omega)).trans (by first | first | assumption | exact g1.2 _ _ _ rfl | exact qb _ (by omega)) | first | assumption | exact g1.2 _ _ _ rfl | exact qb _ (by omega)) | first | assumption | exact g1.2 _ _ _ rfl | exact qb _ (by omega))) (k := ?_)
  refine r_aload_n hm rfl (k := ?_)
  refine r_getI (hm := hm) (hf := rfl) (hd := rfl) (hs := (by first | assumption | exact (g1.1 _).trans rfl)) (hv := (by first | exact putI_eq | exact (putI_ne (by omega)).trans (by first | exact putI_eq | exact (putI_ne (by omega)).trans (by first | first | assumption | exact g1.2 _ _ _ rfl | exact qb _ (by omega)) | first | assumption | exact g1.2 _ _ _ rfl | exact qb _ (by omega)) | first | assumption | exact g1.2 _ _ _ rfl | exact qb _ (by omega))) (k := ?_)
  refine r_icmp_ge (t := 38) hm rfl rfl (fun c8 => ?_) (fun c8 => ?_)
  · refine r_aload_n hm rfl (k := ?_)
    refine r_getI (hm := hm) (hf := rfl) (hd := rfl) (hs := (by first | assumption | exact (g1.1 _).trans rfl)) (hv := (by first | exact putI_eq | exact (putI_ne (by omega)).trans (by first | exact putI_eq | exact (putI_ne (by omega)).trans (by first | first | assumption | exact g1.2 _ _ _ rfl | exact qb _ (by omega)) | first | assumption | exact g1.2 _ _ _ rfl | exact qb _ (by omega)) | first | assumption | exact g1.2 _ _ _ rfl | exact qb _ (by omega))) (k := ?_)
    refine r_aload_n hm rfl (k := ?_)
    refine r_getI (hm := hm) (hf := rfl) (hd := rfl) (hs := (by first | assumption | exact (g1.1 _).trans rfl)) (hv := (by first | exact putI_eq | exact (putI_ne (by omega)).trans (by first | exact putI_eq | exact (putI_ne (by omega)).trans (by first | first | assumption | exact g1.2 _ _ _ rfl | exact qb _ (by omega)) | first | assumption | exact g1.2 _ _ _ rfl | exact qb _ (by omega)) | first | assumption | exact g1.2 _ _ _ rfl | exact qb _ (by omega))) (k := ?_)
    refine r_icmp_ge (t := 61) hm rfl rfl (fun c46 => ?_) (fun c46 => ?_)
    · refine r_iconst hm rfl (k := ?_)
      refine r_ireturn hm rfl rfl (by rfl) (Nat.le_of_ble_eq_true rfl) (Nat.le_of_ble_eq_true rfl) ?_
      have eQ : sk b n p2 = p2 := sk_st (fun _ => by omega)
      rw [← eP, eQ]
      refine ⟨S1, e5, ?_⟩
      unfold hr9
      rw [if_neg (by omega)]
    · exfalso; omega
  · refine r_aload_n hm rfl (k := ?_)
    refine r_getR (hm := hm) (hf := rfl) (hd := rfl) (hs := (by first | assumption | exact (g1.1 _).trans rfl)) (hv := (by first | exact putI_eq | exact (putI_ne (by omega)).trans (by first | exact putI_eq | exact (putI_ne (by omega)).trans (by first | first | assumption | exact g1.2 _ _ _ rfl | exact qb _ (by omega)) | first | assumption | exact g1.2 _ _ _ rfl | exact qb _ (by omega)) | first | assumption | exact g1.2 _ _ _ rfl | exact qb _ (by omega))) (k := ?_)
    refine r_aload_n hm rfl (k := ?_)
    refine r_getI (hm := hm) (hf := rfl) (hd := rfl) (hs := (by first | assumption | exact (g1.1 _).trans rfl)) (hv := (by first | exact putI_eq | exact (putI_ne (by omega)).trans (by first | exact putI_eq | exact (putI_ne (by omega)).trans (by first | first | assumption | exact g1.2 _ _ _ rfl | exact qb _ (by omega)) | first | assumption | exact g1.2 _ _ _ rfl | exact qb _ (by omega)) | first | assumption | exact g1.2 _ _ _ rfl | exact qb _ (by omega))) (k := ?_)
    refine r_iald (hm := hm) (hf := rfl) (hs := (by first | assumption | exact (g1.1 _).trans rfl)) (kk := p2) (hi := by omega) (hn := (by omega)) (hv := (by first | exact putI_eq | exact (putI_ne (by omega)).trans (by first | exact putI_eq | exact (putI_ne (by omega)).trans (by first | first | assumption | exact g1.2 _ _ _ rfl | exact qb _ (by omega)) | first | assumption | exact g1.2 _ _ _ rfl | exact qb _ (by omega)) | first | assumption | exact g1.2 _ _ _ rfl | exact qb _ (by omega))) (k := ?_)
    refine r_bipush hm rfl (k := ?_)
    refine r_icmp_ne (t := 38) hm rfl rfl (fun c22 => ?_) (fun c22 => ?_)
    · refine r_aload_n hm rfl (k := ?_)
      refine r_getI (hm := hm) (hf := rfl) (hd := rfl) (hs := (by first | assumption | exact (g1.1 _).trans rfl)) (hv := (by first | exact putI_eq | exact (putI_ne (by omega)).trans (by first | exact putI_eq | exact (putI_ne (by omega)).trans (by first | first | assumption | exact g1.2 _ _ _ rfl | exact qb _ (by omega)) | first | assumption | exact g1.2 _ _ _ rfl | exact qb _ (by omega)) | first | assumption | exact g1.2 _ _ _ rfl | exact qb _ (by omega))) (k := ?_)
      refine r_aload_n hm rfl (k := ?_)
      refine r_getI (hm := hm) (hf := rfl) (hd := rfl) (hs := (by first | assumption | exact (g1.1 _).trans rfl)) (hv := (by first | exact putI_eq | exact (putI_ne (by omega)).trans (by first | exact putI_eq | exact (putI_ne (by omega)).trans (by first | first | assumption | exact g1.2 _ _ _ rfl | exact qb _ (by omega)) | first | assumption | exact g1.2 _ _ _ rfl | exact qb _ (by omega)) | first | assumption | exact g1.2 _ _ _ rfl | exact qb _ (by omega))) (k := ?_)
      refine r_icmp_ge (t := 61) hm rfl rfl (fun c46 => ?_) (fun c46 => ?_)
      · exfalso; omega
      · refine r_aload_n hm rfl (k := ?_)
        refine r_getR (hm := hm) (hf := rfl) (hd := rfl) (hs := (by first | assumption | exact (g1.1 _).trans rfl)) (hv := (by first | exact putI_eq | exact (putI_ne (by omega)).trans (by first | exact putI_eq | exact (putI_ne (by omega)).trans (by first | first | assumption | exact g1.2 _ _ _ rfl | exact qb _ (by omega)) | first | assumption | exact g1.2 _ _ _ rfl | exact qb _ (by omega)) | first | assumption | exact g1.2 _ _ _ rfl | exact qb _ (by omega))) (k := ?_)
        refine r_aload_n hm rfl (k := ?_)
        refine r_getI (hm := hm) (hf := rfl) (hd := rfl) (hs := (by first | assumption | exact (g1.1 _).trans rfl)) (hv := (by first | exact putI_eq | exact (putI_ne (by omega)).trans (by first | exact putI_eq | exact (putI_ne (by omega)).trans (by first | first | assumption | exact g1.2 _ _ _ rfl | exact qb _ (by omega)) | first | assumption | exact g1.2 _ _ _ rfl | exact qb _ (by omega)) | first | assumption | exact g1.2 _ _ _ rfl | exact qb _ (by omega))) (k := ?_)
        refine r_iald (hm := hm) (hf := rfl) (hs := (by first | assumption | exact (g1.1 _).trans rfl)) (kk := p2) (hi := by omega) (hn := (by omega)) (hv := (by first | exact putI_eq | exact (putI_ne (by omega)).trans (by first | exact putI_eq | exact (putI_ne (by omega)).trans (by first | first | assumption | exact g1.2 _ _ _ rfl | exact qb _ (by omega)) | first | assumption | exact g1.2 _ _ _ rfl | exact qb _ (by omega)) | first | assumption | exact g1.2 _ _ _ rfl | exact qb _ (by omega))) (k := ?_)
        refine r_goto (t := 62) hm rfl (k := ?_)
        refine r_ireturn hm rfl rfl (by rfl) (Nat.le_of_ble_eq_true rfl) (Nat.le_of_ble_eq_true rfl) ?_
        have eQ : sk b n p2 = p2 := sk_st (fun _ => by omega)
        rw [← eP, eQ]
        refine ⟨S1, e5, ?_⟩
        unfold hr9
        rw [if_pos (by omega)]
    · refine r_aload_n hm rfl (k := ?_)
      refine r_dup hm rfl (k := ?_)
      refine r_getI (hm := hm) (hf := rfl) (hd := rfl) (hs := (by first | assumption | exact (g1.1 _).trans rfl)) (hv := (by first | exact putI_eq | exact (putI_ne (by omega)).trans (by first | exact putI_eq | exact (putI_ne (by omega)).trans (by first | first | assumption | exact g1.2 _ _ _ rfl | exact qb _ (by omega)) | first | assumption | exact g1.2 _ _ _ rfl | exact qb _ (by omega)) | first | assumption | exact g1.2 _ _ _ rfl | exact qb _ (by omega))) (k := ?_)
      refine r_iconst hm rfl (k := ?_)
      refine r_iadd hm rfl (hr := (by omega)) (k := ?_)
      refine r_putI (hm := hm) (hf := rfl) (hd := rfl) (hs := (by first | assumption | exact (g1.1 _).trans rfl)) (hfin := Or.inl rfl) (hz := fun q9 => absurd q9 (by decide)) (k := ?_)
      refine r_goto (t := 0) hm rfl (k := ?_)
      exact ih (d - 1) (by omega) (p2 + 1) _ (by omega) (SmL.put S1 ⟨rfl, rfl⟩) putI_eq (by rw [← sk_go (by omega) (by omega)]; exact eP)
set_option maxRecDepth 8000 in
theorem m_readWord {L : Nat} {h : Hp} {b : Nat → Int} {n : Nat} (Q : MQr L h b n) {p : Nat} (hp : h.2.1 1085 51 = (p : Int)) (hpn : p ≤ n) : RN 230 0 [some (.inr (.inr (some (1085)))), none] [] h 0 0 (fun v h2 => SmL (fun a k => a = 1085 ∧ (k = 51 ∨ k = 54)) h h2 ∧ h2.2.1 1085 51 = ((sk b n p : Nat) : Int) ∧ h2.2.1 1085 54 = ((wE b n (sk b n p) : Nat) : Int) ∧ h2.2.2.2 1085 53 = Int64.ofInt (wC b n (sk b n p)) ∧ v = none) := by
  have hm : mrec 230 = some nM230 := rfl
  obtain ⟨g1, ql, qn, qb, qr⟩ := id Q
  refine r_aload_n hm rfl (k := ?_)
  refine r_callv (j2 := 228) hm rfl rfl rfl rfl rfl rfl (by first | assumption | exact (g1.1 _).trans rfl) (Nat.le_of_ble_eq_true rfl) (Nat.le_of_ble_eq_true rfl) rfl ⟨Nat.le_of_ble_eq_true rfl, Nat.le_of_ble_eq_true rfl, Nat.le_of_ble_eq_true rfl, Nat.le_of_ble_eq_true rfl, Nat.le_of_ble_eq_true rfl⟩ rfl (m_here Q hp hpn) (fun v9 h9 p9 => ?_)
  obtain ⟨SA, e5, e1⟩ := p9
  subst e1
  have Q1 := Q.fr SA (fun a k z => by omega)
  obtain ⟨g1, ql, qn, qb, qr⟩ := id Q1
  obtain ⟨P, hP⟩ : ∃ P, sk b n p = P := ⟨_, rfl⟩
  have hPn := (sk_rng (b := b) hpn).2.1
  rw [hP] at hPn e5
  rw [hP]
  change RN 230 4 _ _ _ 0 0 _
  dsimp only [Option.toList, List.cons_append, List.nil_append]
  refine r_istore_n hm rfl (k := ?_)
  refine r_aload_n hm rfl (k := ?_)
  refine r_lconst hm rfl (k := ?_)
  refine r_putL (hm := hm) (hf := rfl) (hd := rfl) (hs := (by first | assumption | exact (g1.1 _).trans rfl)) (hfin := Or.inl rfl) (k := ?_)
  refine r_aload_n hm rfl (k := ?_)
  refine r_aload_n hm rfl (k := ?_)
  refine r_getI (hm := hm) (hf := rfl) (hd := rfl) (hs := (by first | assumption | exact (g1.1 _).trans rfl)) (hv := (by first | exact putI_eq | exact (putI_ne (by omega)).trans (by first | exact putI_eq | exact (putI_ne (by omega)).trans (by first | first | assumption | exact g1.2 _ _ _ rfl | exact qb _ (by omega) | exact e53) | first | assumption | exact g1.2 _ _ _ rfl | exact qb _ (by omega) | exact e53) | first | assumption | exact g1.2 _ _ _ rfl | exact qb _ (by omega) | exact e53)) (k := ?_)
  refine r_putI (hm := hm) (hf := rfl) (hd := rfl) (hs := (by first | assumption | exact (g1.1 _).trans rfl)) (hfin := Or.inl rfl) (hz := fun q9 => absurd q9 (by decide)) (k := ?_)
  suffices LP : ∀ (d q : Nat) (h1 : Hp), q + d = n → P ≤ q → SmL (fun a k => a = 1085 ∧ (k = 51 ∨ k = 54)) h h1 → h1.2.1 1085 51 = (P : Int) → h1.2.1 1085 54 = (q : Int) → h1.2.2.2 1085 53 = Int64.ofInt (scd b P (q - P)) → (∀ x, x < q - P → 97 ≤ b (P + x) ∧ b (P + x) ≤ 122) → wE b n P = ruN b 1 (n - q) q → RN 230 18 [some (.inr (.inr (some (1085)))), some (.inl (hr9 b n P))] [] h1 0 0 (fun v h2 => SmL (fun a k => a = 1085 ∧ (k = 51 ∨ k = 54)) h h2 ∧ h2.2.1 1085 51 = ((P : Nat) : Int) ∧ h2.2.1 1085 54 = ((wE b n P : Nat) : Int) ∧ h2.2.2.2 1085 53 = Int64.ofInt (wC b n P) ∧ v = none) from LP (n - P) P _ (by omega) (Nat.le_refl _) (SmL.put (SmL.putl (SA.mono (fun a k z => by omega))) (by omega)) (by rw [putI_ne (by omega)]; exact e5) putI_eq (by rw [Nat.sub_self]; rfl) (fun x hx => by omega) rfl
  clear Q1 g1 ql qn qb qr SA e5
  refine fun d => Nat.strongRecOn d (fun d ih => ?_)
  intro q h1 hd hPq S1 e51 e54 e53 eL eR
  have Q1 := Q.fr S1 (fun a k z => by omega)
  obtain ⟨g1, ql, qn, qb, qr⟩ := id Q1
  have k9 := ruN_go (b := b) (t := 1) (d := n - q) (p := q)
  have sr := scd_rng (b := b) (P := P) (k := q - P) eL
  have sI : (Int64.ofInt (scd b P (q - P))).toInt = scd b P (q - P) := Int64.toInt_ofInt_of_le (by omega) (by omega)
  have sB : (100000000000 : Int64).toInt = 100000000000 := by decide
  refine r_aload_n hm rfl (k := ?_)
  refine r_getI (hm := hm) (hf := rfl) (hd := rfl) (hs := (by first | assumption | exact (g1.1 _).trans rfl)) (hv := (by first | exact putI_eq | exact (putI_ne (by omega)).trans (by first | exact putI_eq | exact (putI_ne (by omega)).trans (by first | first | assumption | exact g1.2 _ _ _ rfl | exact qb _ (by omega) | exact e53) | first | assumption | exact g1.2 _ _ _ rfl | exact qb _ (by omega) | exact e53) | first | assumption | exact g1.2 _ _ _ rfl | exact qb _ (by omega) | exact e53)) (k := ?_)
  refine r_aload_n hm rfl (k := ?_)
  refine r_getI (hm := hm) (hf := rfl) (hd := rfl) (hs := (by first | assumption | exact (g1.1 _).trans rfl)) (hv := (by first | exact putI_eq | exact (putI_ne (by omega)).trans (by first | exact putI_eq | exact (putI_ne (by omega)).trans (by first | first | assumption | exact g1.2 _ _ _ rfl | exact qb _ (by omega) | exact e53) | first | assumption | exact g1.2 _ _ _ rfl | exact qb _ (by omega) | exact e53) | first | assumption | exact g1.2 _ _ _ rfl | exact qb _ (by omega) | exact e53)) (k := ?_)
  refine r_icmp_ge (t := 108) hm rfl rfl (fun c26 => ?_) (fun c26 => ?_)
  · refine r_return hm rfl rfl (Nat.le_of_ble_eq_true rfl) (Nat.le_of_ble_eq_true rfl) ?_
    have eE : wE b n P = q := by rw [eR, show n - q = 0 by omega]; rfl
    unfold wC
    rw [eE]
    exact ⟨S1, e51, e54, e53, rfl⟩
  · refine r_aload_n hm rfl (k := ?_)
    refine r_getR (hm := hm) (hf := rfl) (hd := rfl) (hs := (by first | assumption | exact (g1.1 _).trans rfl)) (hv := (by first | exact putI_eq | exact (putI_ne (by omega)).trans (by first | exact putI_eq | exact (putI_ne (by omega)).trans (by first | first | assumption | exact g1.2 _ _ _ rfl | exact qb _ (by omega) | exact e53) | first | assumption | exact g1.2 _ _ _ rfl | exact qb _ (by omega) | exact e53) | first | assumption | exact g1.2 _ _ _ rfl | exact qb _ (by omega) | exact e53)) (k := ?_)
    refine r_aload_n hm rfl (k := ?_)
    refine r_getI (hm := hm) (hf := rfl) (hd := rfl) (hs := (by first | assumption | exact (g1.1 _).trans rfl)) (hv := (by first | exact putI_eq | exact (putI_ne (by omega)).trans (by first | exact putI_eq | exact (putI_ne (by omega)).trans (by first | first | assumption | exact g1.2 _ _ _ rfl | exact qb _ (by omega) | exact e53) | first | assumption | exact g1.2 _ _ _ rfl | exact qb _ (by omega) | exact e53) | first | assumption | exact g1.2 _ _ _ rfl | exact qb _ (by omega) | exact e53)) (k := ?_)
    refine r_iald (hm := hm) (hf := rfl) (hs := (by first | assumption | exact (g1.1 _).trans rfl)) (kk := q) (hi := by omega) (hn := (by omega)) (hv := (by first | exact putI_eq | exact (putI_ne (by omega)).trans (by first | exact putI_eq | exact (putI_ne (by omega)).trans (by first | first | assumption | exact g1.2 _ _ _ rfl | exact qb _ (by omega) | exact e53) | first | assumption | exact g1.2 _ _ _ rfl | exact qb _ (by omega) | exact e53) | first | assumption | exact g1.2 _ _ _ rfl | exact qb _ (by omega) | exact e53)) (k := ?_)
    have br := qr q (by omega)
    refine r_i2l hm rfl (k := ?_)
    refine r_ldc2 hm rfl (hd := rfl) (k := ?_)
    refine r_ldc2 hm rfl (hd := rfl) (k := ?_)
    refine r_calls (j2 := 162) hm rfl rfl rfl rfl rfl rfl (Nat.le_of_ble_eq_true rfl) (Nat.le_of_ble_eq_true rfl) rfl ⟨Nat.le_of_ble_eq_true rfl, Nat.le_of_ble_eq_true rfl, Nat.le_of_ble_eq_true rfl, Nat.le_of_ble_eq_true rfl, Nat.le_of_ble_eq_true rfl⟩ rfl (m_in (z := b q) (a := 97) (b := 122) (zL_t ⟨by omega, by omega⟩) rfl rfl) (fun v9 h9 p9 => ?_)
    obtain ⟨e1, e2⟩ := p9
    subst e2
    replace e1 := e1.symm
    subst e1
    obtain ⟨b9, eb9, hb9⟩ := ite01 (p := (97 : Int) ≤ b q ∧ b q ≤ (122 : Int))
    rw [eb9]
    change RN 230 48 _ _ _ 0 0 _
    dsimp only [Option.toList, List.cons_append, List.nil_append]
    refine r_if_eq (t := 108) hm rfl rfl (fun c48 => ?_) (fun c48 => ?_)
    · refine r_return hm rfl rfl (Nat.le_of_ble_eq_true rfl) (Nat.le_of_ble_eq_true rfl) ?_
      have eE : wE b n P = q := by rw [eR, k9 (by omega), if_neg (fun z => by have := srt1.mp z; omega)]
      unfold wC
      rw [eE]
      exact ⟨S1, e51, e54, e53, rfl⟩
    · refine r_aload_n hm rfl (k := ?_)
      refine r_aload_n hm rfl (k := ?_)
      refine r_getL (hm := hm) (hf := rfl) (hd := rfl) (hs := (by first | assumption | exact (g1.1 _).trans rfl)) (hv := (by first | exact putI_eq | exact (putI_ne (by omega)).trans (by first | exact putI_eq | exact (putI_ne (by omega)).trans (by first | first | assumption | exact g1.2 _ _ _ rfl | exact qb _ (by omega) | exact e53) | first | assumption | exact g1.2 _ _ _ rfl | exact qb _ (by omega) | exact e53) | first | assumption | exact g1.2 _ _ _ rfl | exact qb _ (by omega) | exact e53)) (k := ?_)
      refine r_ldc2 hm rfl (hd := rfl) (k := ?_)
      refine r_lcmp hm rfl (k := ?_)
      refine r_if_le (t := 69) hm rfl rfl (fun c60 => ?_) (fun c60 => ?_)
      · refine r_ldc2 hm rfl (hd := rfl) (k := ?_)
        refine r_aload_n hm rfl (k := ?_)
        refine r_getL (hm := hm) (hf := rfl) (hd := rfl) (hs := (by first | assumption | exact (g1.1 _).trans rfl)) (hv := (by first | exact putI_eq | exact (putI_ne (by omega)).trans (by first | exact putI_eq | exact (putI_ne (by omega)).trans (by first | first | assumption | exact g1.2 _ _ _ rfl | exact qb _ (by omega) | exact e53) | first | assumption | exact g1.2 _ _ _ rfl | exact qb _ (by omega) | exact e53) | first | assumption | exact g1.2 _ _ _ rfl | exact qb _ (by omega) | exact e53)) (k := ?_)
        refine r_lmul hm rfl (k := ?_)
        refine r_aload_n hm rfl (k := ?_)
        refine r_getR (hm := hm) (hf := rfl) (hd := rfl) (hs := (by first | assumption | exact (g1.1 _).trans rfl)) (hv := (by first | exact putI_eq | exact (putI_ne (by omega)).trans (by first | exact putI_eq | exact (putI_ne (by omega)).trans (by first | first | assumption | exact g1.2 _ _ _ rfl | exact qb _ (by omega) | exact e53) | first | assumption | exact g1.2 _ _ _ rfl | exact qb _ (by omega) | exact e53) | first | assumption | exact g1.2 _ _ _ rfl | exact qb _ (by omega) | exact e53)) (k := ?_)
        refine r_aload_n hm rfl (k := ?_)
        refine r_getI (hm := hm) (hf := rfl) (hd := rfl) (hs := (by first | assumption | exact (g1.1 _).trans rfl)) (hv := (by first | exact putI_eq | exact (putI_ne (by omega)).trans (by first | exact putI_eq | exact (putI_ne (by omega)).trans (by first | first | assumption | exact g1.2 _ _ _ rfl | exact qb _ (by omega) | exact e53) | first | assumption | exact g1.2 _ _ _ rfl | exact qb _ (by omega) | exact e53) | first | assumption | exact g1.2 _ _ _ rfl | exact qb _ (by omega) | exact e53)) (k := ?_)
        refine r_iald (hm := hm) (hf := rfl) (hs := (by first | assumption | exact (g1.1 _).trans rfl)) (kk := q) (hi := by omega) (hn := (by omega)) (hv := (by first | exact putI_eq | exact (putI_ne (by omega)).trans (by first | exact putI_eq | exact (putI_ne (by omega)).trans (by first | first | assumption | exact g1.2 _ _ _ rfl | exact qb _ (by omega) | exact e53) | first | assumption | exact g1.2 _ _ _ rfl | exact qb _ (by omega) | exact e53) | first | assumption | exact g1.2 _ _ _ rfl | exact qb _ (by omega) | exact e53)) (k := ?_)
        refine r_i2l hm rfl (k := ?_)
        refine r_ladd hm rfl (k := ?_)
        refine r_ldc2 hm rfl (hd := rfl) (k := ?_)
        refine r_lsub hm rfl (k := ?_)
        refine r_putL (hm := hm) (hf := rfl) (hd := rfl) (hs := (by first | assumption | exact (g1.1 _).trans rfl)) (hfin := Or.inl rfl) (k := ?_)
        refine r_aload_n hm rfl (k := ?_)
        refine r_dup hm rfl (k := ?_)
        refine r_getI (hm := hm) (hf := rfl) (hd := rfl) (hs := (by first | assumption | exact (g1.1 _).trans rfl)) (hv := (by first | exact putI_eq | exact (putI_ne (by omega)).trans (by first | exact putI_eq | exact (putI_ne (by omega)).trans (by first | first | assumption | exact g1.2 _ _ _ rfl | exact qb _ (by omega) | exact e53) | first | assumption | exact g1.2 _ _ _ rfl | exact qb _ (by omega) | exact e53) | first | assumption | exact g1.2 _ _ _ rfl | exact qb _ (by omega) | exact e53)) (k := ?_)
        refine r_iconst hm rfl (k := ?_)
        refine r_iadd hm rfl (hr := (by omega)) (k := ?_)
        refine r_putI (hm := hm) (hf := rfl) (hd := rfl) (hs := (by first | assumption | exact (g1.1 _).trans rfl)) (hfin := Or.inl rfl) (hz := fun q9 => absurd q9 (by decide)) (k := ?_)
        refine r_goto (t := 18) hm rfl (k := ?_)
        have es : scd b P (q + 1 - P) = 27 * scd b P (q - P) + b q - 96 := by
          rw [show q + 1 - P = (q - P) + 1 by omega]
          show (if 100000000000 < scd b P (q - P) then 400000000000 else 27 * scd b P (q - P) + b (P + (q - P)) - 96) = _
          rw [if_neg (fun z => by have := (@lg_gt (Int64.ofInt (scd b P (q - P))) 100000000000).mpr (by omega); omega), show P + (q - P) = q by omega]
        refine ih (d - 1) (by omega) (q + 1) _ (by omega) (by omega) (SmL.put (SmL.putl S1) (by omega)) (by rw [putI_ne (by omega)]; exact e51) putI_eq ?_ (fun x hx => ?_) ?_
        · rw [es]
          show (putL h1 1085 53 _).2.2.2 1085 53 = _
          rw [putL_eq]
          exact wstep ⟨by omega, by omega⟩
        · by_cases c : x = q - P
          · rw [c, show P + (q - P) = q by omega]; omega
          · exact eL x (by omega)
        · rw [eR, k9 (by omega), if_pos (srt1.mpr (by omega)), show n - q - 1 = n - (q + 1) by omega]
      · refine r_ldc2 hm rfl (hd := rfl) (k := ?_)
        refine r_goto (t := 92) hm rfl (k := ?_)
        refine r_putL (hm := hm) (hf := rfl) (hd := rfl) (hs := (by first | assumption | exact (g1.1 _).trans rfl)) (hfin := Or.inl rfl) (k := ?_)
        refine r_aload_n hm rfl (k := ?_)
        refine r_dup hm rfl (k := ?_)
        refine r_getI (hm := hm) (hf := rfl) (hd := rfl) (hs := (by first | assumption | exact (g1.1 _).trans rfl)) (hv := (by first | exact putI_eq | exact (putI_ne (by omega)).trans (by first | exact putI_eq | exact (putI_ne (by omega)).trans (by first | first | assumption | exact g1.2 _ _ _ rfl | exact qb _ (by omega) | exact e53) | first | assumption | exact g1.2 _ _ _ rfl | exact qb _ (by omega) | exact e53) | first | assumption | exact g1.2 _ _ _ rfl | exact qb _ (by omega) | exact e53)) (k := ?_)
        refine r_iconst hm rfl (k := ?_)
        refine r_iadd hm rfl (hr := (by omega)) (k := ?_)
        refine r_putI (hm := hm) (hf := rfl) (hd := rfl) (hs := (by first | assumption | exact (g1.1 _).trans rfl)) (hfin := Or.inl rfl) (hz := fun q9 => absurd q9 (by decide)) (k := ?_)
        refine r_goto (t := 18) hm rfl (k := ?_)
        have es : scd b P (q + 1 - P) = 400000000000 := by
          rw [show q + 1 - P = (q - P) + 1 by omega]
          show (if 100000000000 < scd b P (q - P) then 400000000000 else 27 * scd b P (q - P) + b (P + (q - P)) - 96) = _
          rw [if_pos (by have := (@lg_gt (Int64.ofInt (scd b P (q - P))) 100000000000).mp (by omega); omega)]
        refine ih (d - 1) (by omega) (q + 1) _ (by omega) (by omega) (SmL.put (SmL.putl S1) (by omega)) (by rw [putI_ne (by omega)]; exact e51) putI_eq ?_ (fun x hx => ?_) ?_
        · rw [es]
          show (putL h1 1085 53 _).2.2.2 1085 53 = _
          rw [putL_eq]
          rfl
        · by_cases c : x = q - P
          · rw [c, show P + (q - P) = q by omega]; omega
          · exact eL x (by omega)
        · rw [eR, k9 (by omega), if_pos (srt1.mpr (by omega)), show n - q - 1 = n - (q + 1) by omega]
theorem m_codeX {h : Hp} {v0 x : Int64} {a b9 c d : Int} (hx : cde v0 a b9 c d = x) : RN 232 0 [some (.inr (.inl v0)), none, some (.inl a), some (.inl b9), some (.inl c), some (.inl d), none, none] [] h 0 0 (fun v h2 => h2 = h ∧ v = some (.inr (.inl x))) := by subst hx; exact m_code
set_option maxRecDepth 8000 in
theorem m_figuresWord {h : Hp} : RN 233 0 [] [] h 0 0 (fun v h2 => h2 = h ∧ v = some (.inr (.inl (Int64.ofInt (cdW 3))))) := by
  have hm : mrec 233 = some nM233 := rfl
  refine r_lconst hm rfl (k := ?_)
  refine r_bipush hm rfl (k := ?_)
  refine r_bipush hm rfl (k := ?_)
  refine r_bipush hm rfl (k := ?_)
  refine r_bipush hm rfl (k := ?_)
  refine r_calls (j2 := 232) hm rfl rfl rfl rfl rfl rfl (Nat.le_of_ble_eq_true rfl) (Nat.le_of_ble_eq_true rfl) rfl ⟨Nat.le_of_ble_eq_true rfl, Nat.le_of_ble_eq_true rfl, Nat.le_of_ble_eq_true rfl, Nat.le_of_ble_eq_true rfl, Nat.le_of_ble_eq_true rfl⟩ rfl (m_codeX rfl) (fun v9 h9 p9 => ?_)
  obtain ⟨e1, e2⟩ := p9
  subst e2
  replace e1 := e1.symm
  subst e1
  change RN 233 12 _ _ _ 0 0 _
  dsimp only [Option.toList, List.cons_append, List.nil_append]
  refine r_bipush hm rfl (k := ?_)
  refine r_bipush hm rfl (k := ?_)
  refine r_bipush hm rfl (k := ?_)
  refine r_iconst hm rfl (k := ?_)
  refine r_calls (j2 := 232) hm rfl rfl rfl rfl rfl rfl (Nat.le_of_ble_eq_true rfl) (Nat.le_of_ble_eq_true rfl) rfl ⟨Nat.le_of_ble_eq_true rfl, Nat.le_of_ble_eq_true rfl, Nat.le_of_ble_eq_true rfl, Nat.le_of_ble_eq_true rfl, Nat.le_of_ble_eq_true rfl⟩ rfl (m_codeX (x := Int64.ofInt (cdW 3)) (by decide +kernel)) (fun v9 h9 p9 => ?_)
  obtain ⟨e1, e2⟩ := p9
  subst e2
  replace e1 := e1.symm
  subst e1
  change RN 233 22 _ _ _ 0 0 _
  dsimp only [Option.toList, List.cons_append, List.nil_append]
  refine r_lreturn hm rfl rfl (Nat.le_of_ble_eq_true rfl) (Nat.le_of_ble_eq_true rfl) ?_
  exact ⟨rfl, rfl⟩
set_option maxRecDepth 8000 in
theorem m_keyOf {L : Nat} {h : Hp} {b : Nat → Int} {n : Nat} (Q : MQr L h b n) {w : Int} (hw : h.2.2.2 1085 53 = Int64.ofInt w) (hw2 : -1 ≤ w ∧ w ≤ 3000000000000) : RN 231 0 [some (.inr (.inr (some (1085))))] [] h 0 0 (fun v h2 => h2 = h ∧ v = some (.inl (keyK w))) := by
  have hm : mrec 231 = some nM231 := rfl
  obtain ⟨g1, ql, qn, qb, qr⟩ := id Q
  have c9 : ∀ i, i < 12 → -1 ≤ cdW i ∧ cdW i ≤ 3000000000000 := fun i hi => by have := (wd_let hi).2; omega
  refine r_aload_n hm rfl (k := ?_)
  refine r_getL (hm := hm) (hf := rfl) (hd := rfl) (hs := (by first | assumption | exact (g1.1 _).trans rfl)) (hv := (by first | exact putI_eq | exact (putI_ne (by omega)).trans (by first | exact putI_eq | exact (putI_ne (by omega)).trans (by first | first | assumption | exact g1.2 _ _ _ rfl | exact qb _ (by omega)) | first | assumption | exact g1.2 _ _ _ rfl | exact qb _ (by omega)) | first | assumption | exact g1.2 _ _ _ rfl | exact qb _ (by omega))) (k := ?_)
  refine r_lconst hm rfl (k := ?_)
  refine r_bipush hm rfl (k := ?_)
  refine r_bipush hm rfl (k := ?_)
  refine r_bipush hm rfl (k := ?_)
  refine r_bipush hm rfl (k := ?_)
  refine r_calls (j2 := 232) hm rfl rfl rfl rfl rfl rfl (Nat.le_of_ble_eq_true rfl) (Nat.le_of_ble_eq_true rfl) rfl ⟨Nat.le_of_ble_eq_true rfl, Nat.le_of_ble_eq_true rfl, Nat.le_of_ble_eq_true rfl, Nat.le_of_ble_eq_true rfl, Nat.le_of_ble_eq_true rfl⟩ rfl (m_codeX (x := Int64.ofInt (cdW 0)) (by decide +kernel)) (fun v9 h9 p9 => ?_)
  obtain ⟨e1, e2⟩ := p9
  subst e2
  replace e1 := e1.symm
  subst e1
  change RN 231 16 _ _ _ 0 0 _
  dsimp only [Option.toList, List.cons_append, List.nil_append]
  refine r_lcmp hm rfl (k := ?_)
  refine r_if_ne (t := 24) hm rfl rfl (fun c17 => ?_) (fun c17 => ?_)
  · refine r_aload_n hm rfl (k := ?_)
    refine r_getL (hm := hm) (hf := rfl) (hd := rfl) (hs := (by first | assumption | exact (g1.1 _).trans rfl)) (hv := (by first | exact putI_eq | exact (putI_ne (by omega)).trans (by first | exact putI_eq | exact (putI_ne (by omega)).trans (by first | first | assumption | exact g1.2 _ _ _ rfl | exact qb _ (by omega)) | first | assumption | exact g1.2 _ _ _ rfl | exact qb _ (by omega)) | first | assumption | exact g1.2 _ _ _ rfl | exact qb _ (by omega))) (k := ?_)
    refine r_lconst hm rfl (k := ?_)
    refine r_bipush hm rfl (k := ?_)
    refine r_bipush hm rfl (k := ?_)
    refine r_bipush hm rfl (k := ?_)
    refine r_bipush hm rfl (k := ?_)
    refine r_calls (j2 := 232) hm rfl rfl rfl rfl rfl rfl (Nat.le_of_ble_eq_true rfl) (Nat.le_of_ble_eq_true rfl) rfl ⟨Nat.le_of_ble_eq_true rfl, Nat.le_of_ble_eq_true rfl, Nat.le_of_ble_eq_true rfl, Nat.le_of_ble_eq_true rfl, Nat.le_of_ble_eq_true rfl⟩ rfl (m_codeX rfl) (fun v9 h9 p9 => ?_)
    obtain ⟨e1, e2⟩ := p9
    subst e2
    replace e1 := e1.symm
    subst e1
    change RN 231 40 _ _ _ 0 0 _
    dsimp only [Option.toList, List.cons_append, List.nil_append]
    refine r_bipush hm rfl (k := ?_)
    refine r_iconst hm rfl (k := ?_)
    refine r_iconst hm rfl (k := ?_)
    refine r_iconst hm rfl (k := ?_)
    refine r_calls (j2 := 232) hm rfl rfl rfl rfl rfl rfl (Nat.le_of_ble_eq_true rfl) (Nat.le_of_ble_eq_true rfl) rfl ⟨Nat.le_of_ble_eq_true rfl, Nat.le_of_ble_eq_true rfl, Nat.le_of_ble_eq_true rfl, Nat.le_of_ble_eq_true rfl, Nat.le_of_ble_eq_true rfl⟩ rfl (m_codeX (x := Int64.ofInt (cdW 2)) (by decide +kernel)) (fun v9 h9 p9 => ?_)
    obtain ⟨e1, e2⟩ := p9
    subst e2
    replace e1 := e1.symm
    subst e1
    change RN 231 48 _ _ _ 0 0 _
    dsimp only [Option.toList, List.cons_append, List.nil_append]
    refine r_lcmp hm rfl (k := ?_)
    refine r_if_ne (t := 56) hm rfl rfl (fun c49 => ?_) (fun c49 => ?_)
    · refine r_aload_n hm rfl (k := ?_)
      refine r_getL (hm := hm) (hf := rfl) (hd := rfl) (hs := (by first | assumption | exact (g1.1 _).trans rfl)) (hv := (by first | exact putI_eq | exact (putI_ne (by omega)).trans (by first | exact putI_eq | exact (putI_ne (by omega)).trans (by first | first | assumption | exact g1.2 _ _ _ rfl | exact qb _ (by omega)) | first | assumption | exact g1.2 _ _ _ rfl | exact qb _ (by omega)) | first | assumption | exact g1.2 _ _ _ rfl | exact qb _ (by omega))) (k := ?_)
      refine r_calls (j2 := 233) hm rfl rfl rfl rfl rfl rfl (Nat.le_of_ble_eq_true rfl) (Nat.le_of_ble_eq_true rfl) rfl ⟨Nat.le_of_ble_eq_true rfl, Nat.le_of_ble_eq_true rfl, Nat.le_of_ble_eq_true rfl, Nat.le_of_ble_eq_true rfl, Nat.le_of_ble_eq_true rfl⟩ rfl (m_figuresWord) (fun v9 h9 p9 => ?_)
      obtain ⟨e1, e2⟩ := p9
      subst e2
      replace e1 := e1.symm
      subst e1
      change RN 231 63 _ _ _ 0 0 _
      dsimp only [Option.toList, List.cons_append, List.nil_append]
      refine r_lcmp hm rfl (k := ?_)
      refine r_if_ne (t := 71) hm rfl rfl (fun c64 => ?_) (fun c64 => ?_)
      · refine r_aload_n hm rfl (k := ?_)
        refine r_getL (hm := hm) (hf := rfl) (hd := rfl) (hs := (by first | assumption | exact (g1.1 _).trans rfl)) (hv := (by first | exact putI_eq | exact (putI_ne (by omega)).trans (by first | exact putI_eq | exact (putI_ne (by omega)).trans (by first | first | assumption | exact g1.2 _ _ _ rfl | exact qb _ (by omega)) | first | assumption | exact g1.2 _ _ _ rfl | exact qb _ (by omega)) | first | assumption | exact g1.2 _ _ _ rfl | exact qb _ (by omega))) (k := ?_)
        refine r_lconst hm rfl (k := ?_)
        refine r_bipush hm rfl (k := ?_)
        refine r_bipush hm rfl (k := ?_)
        refine r_bipush hm rfl (k := ?_)
        refine r_bipush hm rfl (k := ?_)
        refine r_calls (j2 := 232) hm rfl rfl rfl rfl rfl rfl (Nat.le_of_ble_eq_true rfl) (Nat.le_of_ble_eq_true rfl) rfl ⟨Nat.le_of_ble_eq_true rfl, Nat.le_of_ble_eq_true rfl, Nat.le_of_ble_eq_true rfl, Nat.le_of_ble_eq_true rfl, Nat.le_of_ble_eq_true rfl⟩ rfl (m_codeX rfl) (fun v9 h9 p9 => ?_)
        obtain ⟨e1, e2⟩ := p9
        subst e2
        replace e1 := e1.symm
        subst e1
        change RN 231 87 _ _ _ 0 0 _
        dsimp only [Option.toList, List.cons_append, List.nil_append]
        refine r_bipush hm rfl (k := ?_)
        refine r_iconst hm rfl (k := ?_)
        refine r_iconst hm rfl (k := ?_)
        refine r_iconst hm rfl (k := ?_)
        refine r_calls (j2 := 232) hm rfl rfl rfl rfl rfl rfl (Nat.le_of_ble_eq_true rfl) (Nat.le_of_ble_eq_true rfl) rfl ⟨Nat.le_of_ble_eq_true rfl, Nat.le_of_ble_eq_true rfl, Nat.le_of_ble_eq_true rfl, Nat.le_of_ble_eq_true rfl, Nat.le_of_ble_eq_true rfl⟩ rfl (m_codeX (x := Int64.ofInt (cdW 5)) (by decide +kernel)) (fun v9 h9 p9 => ?_)
        obtain ⟨e1, e2⟩ := p9
        subst e2
        replace e1 := e1.symm
        subst e1
        change RN 231 95 _ _ _ 0 0 _
        dsimp only [Option.toList, List.cons_append, List.nil_append]
        refine r_lcmp hm rfl (k := ?_)
        refine r_if_ne (t := 103) hm rfl rfl (fun c96 => ?_) (fun c96 => ?_)
        · refine r_aload_n hm rfl (k := ?_)
          refine r_getL (hm := hm) (hf := rfl) (hd := rfl) (hs := (by first | assumption | exact (g1.1 _).trans rfl)) (hv := (by first | exact putI_eq | exact (putI_ne (by omega)).trans (by first | exact putI_eq | exact (putI_ne (by omega)).trans (by first | first | assumption | exact g1.2 _ _ _ rfl | exact qb _ (by omega)) | first | assumption | exact g1.2 _ _ _ rfl | exact qb _ (by omega)) | first | assumption | exact g1.2 _ _ _ rfl | exact qb _ (by omega))) (k := ?_)
          refine r_lconst hm rfl (k := ?_)
          refine r_bipush hm rfl (k := ?_)
          refine r_bipush hm rfl (k := ?_)
          refine r_bipush hm rfl (k := ?_)
          refine r_bipush hm rfl (k := ?_)
          refine r_calls (j2 := 232) hm rfl rfl rfl rfl rfl rfl (Nat.le_of_ble_eq_true rfl) (Nat.le_of_ble_eq_true rfl) rfl ⟨Nat.le_of_ble_eq_true rfl, Nat.le_of_ble_eq_true rfl, Nat.le_of_ble_eq_true rfl, Nat.le_of_ble_eq_true rfl, Nat.le_of_ble_eq_true rfl⟩ rfl (m_codeX rfl) (fun v9 h9 p9 => ?_)
          obtain ⟨e1, e2⟩ := p9
          subst e2
          replace e1 := e1.symm
          subst e1
          change RN 231 119 _ _ _ 0 0 _
          dsimp only [Option.toList, List.cons_append, List.nil_append]
          refine r_bipush hm rfl (k := ?_)
          refine r_bipush hm rfl (k := ?_)
          refine r_bipush hm rfl (k := ?_)
          refine r_bipush hm rfl (k := ?_)
          refine r_calls (j2 := 232) hm rfl rfl rfl rfl rfl rfl (Nat.le_of_ble_eq_true rfl) (Nat.le_of_ble_eq_true rfl) rfl ⟨Nat.le_of_ble_eq_true rfl, Nat.le_of_ble_eq_true rfl, Nat.le_of_ble_eq_true rfl, Nat.le_of_ble_eq_true rfl, Nat.le_of_ble_eq_true rfl⟩ rfl (m_codeX (x := Int64.ofInt (cdW 6)) (by decide +kernel)) (fun v9 h9 p9 => ?_)
          obtain ⟨e1, e2⟩ := p9
          subst e2
          replace e1 := e1.symm
          subst e1
          change RN 231 130 _ _ _ 0 0 _
          dsimp only [Option.toList, List.cons_append, List.nil_append]
          refine r_lcmp hm rfl (k := ?_)
          refine r_if_ne (t := 138) hm rfl rfl (fun c131 => ?_) (fun c131 => ?_)
          · refine r_iconst hm rfl (k := ?_)
            refine r_ireturn hm rfl rfl (by rfl) (Nat.le_of_ble_eq_true rfl) (Nat.le_of_ble_eq_true rfl) ?_
            have w17 : ¬ w = cdW 0 := fun z => c17 (lg_eq0.mpr ((o64 hw2 (c9 0 (by omega))).mpr z))
            have w49 : ¬ w = cdW 2 := fun z => c49 (lg_eq0.mpr ((o64 hw2 (c9 2 (by omega))).mpr z))
            have w64 : ¬ w = cdW 3 := fun z => c64 (lg_eq0.mpr ((o64 hw2 (c9 3 (by omega))).mpr z))
            have w96 : ¬ w = cdW 5 := fun z => c96 (lg_eq0.mpr ((o64 hw2 (c9 5 (by omega))).mpr z))
            have w131 : ¬ w = cdW 6 := fun z => c131 (lg_eq0.mpr ((o64 hw2 (c9 6 (by omega))).mpr z))
            refine ⟨rfl, ?_⟩
            unfold keyK
            rw [if_neg w17, if_neg w49, if_neg w64, if_neg w96, if_neg w131]
          · refine r_iconst hm rfl (k := ?_)
            refine r_goto (t := 139) hm rfl (k := ?_)
            refine r_ireturn hm rfl rfl (by rfl) (Nat.le_of_ble_eq_true rfl) (Nat.le_of_ble_eq_true rfl) ?_
            have w17 : ¬ w = cdW 0 := fun z => c17 (lg_eq0.mpr ((o64 hw2 (c9 0 (by omega))).mpr z))
            have w49 : ¬ w = cdW 2 := fun z => c49 (lg_eq0.mpr ((o64 hw2 (c9 2 (by omega))).mpr z))
            have w64 : ¬ w = cdW 3 := fun z => c64 (lg_eq0.mpr ((o64 hw2 (c9 3 (by omega))).mpr z))
            have w96 : ¬ w = cdW 5 := fun z => c96 (lg_eq0.mpr ((o64 hw2 (c9 5 (by omega))).mpr z))
            have w131 := (o64 hw2 (c9 6 (by omega))).mp (lg_eq0.mp (Decidable.not_not.mp c131))
            refine ⟨rfl, ?_⟩
            unfold keyK
            rw [if_neg w17, if_neg w49, if_neg w64, if_neg w96, if_pos w131]
        · refine r_iconst hm rfl (k := ?_)
          refine r_goto (t := 139) hm rfl (k := ?_)
          refine r_ireturn hm rfl rfl (by rfl) (Nat.le_of_ble_eq_true rfl) (Nat.le_of_ble_eq_true rfl) ?_
          have w17 : ¬ w = cdW 0 := fun z => c17 (lg_eq0.mpr ((o64 hw2 (c9 0 (by omega))).mpr z))
          have w49 : ¬ w = cdW 2 := fun z => c49 (lg_eq0.mpr ((o64 hw2 (c9 2 (by omega))).mpr z))
          have w64 : ¬ w = cdW 3 := fun z => c64 (lg_eq0.mpr ((o64 hw2 (c9 3 (by omega))).mpr z))
          have w96 := (o64 hw2 (c9 5 (by omega))).mp (lg_eq0.mp (Decidable.not_not.mp c96))
          refine ⟨rfl, ?_⟩
          unfold keyK
          rw [if_neg w17, if_neg w49, if_neg w64, if_pos w96]
      · refine r_iconst hm rfl (k := ?_)
        refine r_goto (t := 139) hm rfl (k := ?_)
        refine r_ireturn hm rfl rfl (by rfl) (Nat.le_of_ble_eq_true rfl) (Nat.le_of_ble_eq_true rfl) ?_
        have w17 : ¬ w = cdW 0 := fun z => c17 (lg_eq0.mpr ((o64 hw2 (c9 0 (by omega))).mpr z))
        have w49 : ¬ w = cdW 2 := fun z => c49 (lg_eq0.mpr ((o64 hw2 (c9 2 (by omega))).mpr z))
        have w64 := (o64 hw2 (c9 3 (by omega))).mp (lg_eq0.mp (Decidable.not_not.mp c64))
        refine ⟨rfl, ?_⟩
        unfold keyK
        rw [if_neg w17, if_neg w49, if_pos w64]
    · refine r_iconst hm rfl (k := ?_)
      refine r_goto (t := 139) hm rfl (k := ?_)
      refine r_ireturn hm rfl rfl (by rfl) (Nat.le_of_ble_eq_true rfl) (Nat.le_of_ble_eq_true rfl) ?_
      have w17 : ¬ w = cdW 0 := fun z => c17 (lg_eq0.mpr ((o64 hw2 (c9 0 (by omega))).mpr z))
      have w49 := (o64 hw2 (c9 2 (by omega))).mp (lg_eq0.mp (Decidable.not_not.mp c49))
      refine ⟨rfl, ?_⟩
      unfold keyK
      rw [if_neg w17, if_pos w49]
  · refine r_iconst hm rfl (k := ?_)
    refine r_goto (t := 139) hm rfl (k := ?_)
    refine r_ireturn hm rfl rfl (by rfl) (Nat.le_of_ble_eq_true rfl) (Nat.le_of_ble_eq_true rfl) ?_
    have w17 := (o64 hw2 (c9 0 (by omega))).mp (lg_eq0.mp (Decidable.not_not.mp c17))
    refine ⟨rfl, ?_⟩
    unfold keyK
    rw [if_pos w17]
set_option maxRecDepth 8000 in
theorem m_fails {L : Nat} {h : Hp} {b : Nat → Int} {n : Nat} (Q : MQr L h b n) {u w : Int} : RN 234 0 [some (.inr (.inr (some (1085)))), some (.inl u), some (.inl w)] [] h 0 0 (fun v h2 => h2 = putI h 1085 50 w ∧ v = some (.inl u)) := by
  have hm : mrec 234 = some nM234 := rfl
  obtain ⟨g1, ql, qn, qb, qr⟩ := id Q
  refine r_aload_n hm rfl (k := ?_)
  refine r_iload_n hm rfl (k := ?_)
  refine r_putI (hm := hm) (hf := rfl) (hd := rfl) (hs := (by first | assumption | exact (g1.1 _).trans rfl)) (hfin := Or.inl rfl) (hz := fun q9 => absurd q9 (by decide)) (k := ?_)
  refine r_iload_n hm rfl (k := ?_)
  refine r_ireturn hm rfl rfl (by rfl) (Nat.le_of_ble_eq_true rfl) (Nat.le_of_ble_eq_true rfl) ?_
  exact ⟨rfl, rfl⟩
set_option maxRecDepth 8000 in
theorem m_oneOf {L : Nat} {h : Hp} {b : Nat → Int} {n : Nat} (Q : MQr L h b n) {p : Nat} (hp : h.2.1 1085 51 = (p : Int)) (hpn : p ≤ n) {a1 a2 a3 : Int} (r1 : -1 ≤ a1 ∧ a1 ≤ 3000000000000) (r2 : -1 ≤ a2 ∧ a2 ≤ 3000000000000) (r3 : -1 ≤ a3 ∧ a3 ≤ 3000000000000) : RN 237 0 [some (.inr (.inr (some (1085)))), some (.inr (.inl (Int64.ofInt a1))), none, some (.inr (.inl (Int64.ofInt a2))), none, some (.inr (.inl (Int64.ofInt a3))), none, none] [] h 0 0 (fun v h2 => SmL (fun a k => a = 1085 ∧ (k = 51 ∨ k = 54)) h h2 ∧ h2.2.1 1085 51 = (if oneK (wC b n (sk b n p)) a1 a2 a3 < 0 then ((sk b n p : Nat) : Int) else ((wE b n (sk b n p) : Nat) : Int)) ∧ v = some (.inl (oneK (wC b n (sk b n p)) a1 a2 a3))) := by
  have hm : mrec 237 = some nM237 := rfl
  obtain ⟨g1, ql, qn, qb, qr⟩ := id Q
  refine r_aload_n hm rfl (k := ?_)
  refine r_callv (j2 := 230) hm rfl rfl rfl rfl rfl rfl (by first | assumption | exact (g1.1 _).trans rfl) (Nat.le_of_ble_eq_true rfl) (Nat.le_of_ble_eq_true rfl) rfl ⟨Nat.le_of_ble_eq_true rfl, Nat.le_of_ble_eq_true rfl, Nat.le_of_ble_eq_true rfl, Nat.le_of_ble_eq_true rfl, Nat.le_of_ble_eq_true rfl⟩ rfl (m_readWord Q hp hpn) (fun v9 h9 p9 => ?_)
  obtain ⟨SA, e51, e54, e53, e1⟩ := p9
  subst e1
  have Q1 := Q.fr SA (fun a k z => by omega)
  obtain ⟨g1, ql, qn, qb, qr⟩ := id Q1
  have hPn := (sk_rng (b := b) hpn).2.1
  obtain ⟨P, hP⟩ : ∃ P, sk b n p = P := ⟨_, rfl⟩
  rw [hP] at hPn e51 e54 e53
  rw [hP]
  have hW := wC_rng (b := b) hPn
  change RN 237 4 _ _ _ 0 0 _
  dsimp only [Option.toList, List.nil_append]
  refine r_aload_n hm rfl (k := ?_)
  refine r_getL (hm := hm) (hf := rfl) (hd := rfl) (hs := (by first | assumption | exact (g1.1 _).trans rfl)) (hv := (by first | exact putI_eq | exact (putI_ne (by omega)).trans (by first | exact putI_eq | exact (putI_ne (by omega)).trans (by first | first | assumption | exact g1.2 _ _ _ rfl | exact qb _ (by omega) | exact e53) | first | assumption | exact g1.2 _ _ _ rfl | exact qb _ (by omega) | exact e53) | first | assumption | exact g1.2 _ _ _ rfl | exact qb _ (by omega) | exact e53)) (k := ?_)
  refine r_lconst hm rfl (k := ?_)
  refine r_lcmp hm rfl (k := ?_)
  refine r_if_ne (t := 17) hm rfl rfl (fun c10 => ?_) (fun c10 => ?_)
  · refine r_aload_n hm rfl (k := ?_)
    refine r_getL (hm := hm) (hf := rfl) (hd := rfl) (hs := (by first | assumption | exact (g1.1 _).trans rfl)) (hv := (by first | exact putI_eq | exact (putI_ne (by omega)).trans (by first | exact putI_eq | exact (putI_ne (by omega)).trans (by first | first | assumption | exact g1.2 _ _ _ rfl | exact qb _ (by omega) | exact e53) | first | assumption | exact g1.2 _ _ _ rfl | exact qb _ (by omega) | exact e53) | first | assumption | exact g1.2 _ _ _ rfl | exact qb _ (by omega) | exact e53)) (k := ?_)
    refine r_lload_n hm rfl (k := ?_)
    refine r_lcmp hm rfl (k := ?_)
    refine r_if_ne (t := 30) hm rfl rfl (fun c23 => ?_) (fun c23 => ?_)
    · refine r_aload_n hm rfl (k := ?_)
      refine r_getL (hm := hm) (hf := rfl) (hd := rfl) (hs := (by first | assumption | exact (g1.1 _).trans rfl)) (hv := (by first | exact putI_eq | exact (putI_ne (by omega)).trans (by first | exact putI_eq | exact (putI_ne (by omega)).trans (by first | first | assumption | exact g1.2 _ _ _ rfl | exact qb _ (by omega) | exact e53) | first | assumption | exact g1.2 _ _ _ rfl | exact qb _ (by omega) | exact e53) | first | assumption | exact g1.2 _ _ _ rfl | exact qb _ (by omega) | exact e53)) (k := ?_)
      refine r_lload_n hm rfl (k := ?_)
      refine r_lcmp hm rfl (k := ?_)
      refine r_if_ne (t := 43) hm rfl rfl (fun c36 => ?_) (fun c36 => ?_)
      · refine r_aload_n hm rfl (k := ?_)
        refine r_getL (hm := hm) (hf := rfl) (hd := rfl) (hs := (by first | assumption | exact (g1.1 _).trans rfl)) (hv := (by first | exact putI_eq | exact (putI_ne (by omega)).trans (by first | exact putI_eq | exact (putI_ne (by omega)).trans (by first | first | assumption | exact g1.2 _ _ _ rfl | exact qb _ (by omega) | exact e53) | first | assumption | exact g1.2 _ _ _ rfl | exact qb _ (by omega) | exact e53) | first | assumption | exact g1.2 _ _ _ rfl | exact qb _ (by omega) | exact e53)) (k := ?_)
        refine r_lload hm rfl (k := ?_)
        refine r_lcmp hm rfl (k := ?_)
        refine r_if_ne (t := 57) hm rfl rfl (fun c50 => ?_) (fun c50 => ?_)
        · refine r_iconst hm rfl (k := ?_)
          refine r_istore hm rfl (k := ?_)
          refine r_aload_n hm rfl (k := ?_)
          refine r_iload hm rfl (k := ?_)
          refine r_if_ge (t := 73) hm rfl rfl (fun c63 => ?_) (fun c63 => ?_)
          · exact absurd c63 (by decide)
          · refine r_aload_n hm rfl (k := ?_)
            refine r_getI (hm := hm) (hf := rfl) (hd := rfl) (hs := (by first | assumption | exact (g1.1 _).trans rfl)) (hv := (by first | exact putI_eq | exact (putI_ne (by omega)).trans (by first | exact putI_eq | exact (putI_ne (by omega)).trans (by first | first | assumption | exact g1.2 _ _ _ rfl | exact qb _ (by omega) | exact e53) | first | assumption | exact g1.2 _ _ _ rfl | exact qb _ (by omega) | exact e53) | first | assumption | exact g1.2 _ _ _ rfl | exact qb _ (by omega) | exact e53)) (k := ?_)
            refine r_goto (t := 77) hm rfl (k := ?_)
            refine r_putI (hm := hm) (hf := rfl) (hd := rfl) (hs := (by first | assumption | exact (g1.1 _).trans rfl)) (hfin := Or.inl rfl) (hz := fun q9 => absurd q9 (by decide)) (k := ?_)
            refine r_iload hm rfl (k := ?_)
            refine r_ireturn hm rfl rfl (by rfl) (Nat.le_of_ble_eq_true rfl) (Nat.le_of_ble_eq_true rfl) ?_
            have w10 : ¬ (wC b n P) = 0 := fun z => c10 (lg_eq0.mpr ((o64 ⟨by omega, by omega⟩ ⟨by omega, by omega⟩).mpr z))
            have w23 : ¬ (wC b n P) = a1 := fun z => c23 (lg_eq0.mpr ((o64 ⟨by omega, by omega⟩ r1).mpr z))
            have w36 : ¬ (wC b n P) = a2 := fun z => c36 (lg_eq0.mpr ((o64 ⟨by omega, by omega⟩ r2).mpr z))
            have w50 : ¬ (wC b n P) = a3 := fun z => c50 (lg_eq0.mpr ((o64 ⟨by omega, by omega⟩ r3).mpr z))
            have eK : oneK (wC b n P) a1 a2 a3 = -1 := by unfold oneK; rw [if_neg w10, if_neg w23, if_neg w36, if_neg w50]
            rw [eK]
            exact ⟨SmL.put SA (by omega), by rw [putI_eq, if_pos (by omega)], rfl⟩
        · refine r_iconst hm rfl (k := ?_)
          refine r_goto (t := 58) hm rfl (k := ?_)
          refine r_istore hm rfl (k := ?_)
          refine r_aload_n hm rfl (k := ?_)
          refine r_iload hm rfl (k := ?_)
          refine r_if_ge (t := 73) hm rfl rfl (fun c63 => ?_) (fun c63 => ?_)
          · refine r_aload_n hm rfl (k := ?_)
            refine r_getI (hm := hm) (hf := rfl) (hd := rfl) (hs := (by first | assumption | exact (g1.1 _).trans rfl)) (hv := (by first | exact putI_eq | exact (putI_ne (by omega)).trans (by first | exact putI_eq | exact (putI_ne (by omega)).trans (by first | first | assumption | exact g1.2 _ _ _ rfl | exact qb _ (by omega) | exact e53) | first | assumption | exact g1.2 _ _ _ rfl | exact qb _ (by omega) | exact e53) | first | assumption | exact g1.2 _ _ _ rfl | exact qb _ (by omega) | exact e53)) (k := ?_)
            refine r_putI (hm := hm) (hf := rfl) (hd := rfl) (hs := (by first | assumption | exact (g1.1 _).trans rfl)) (hfin := Or.inl rfl) (hz := fun q9 => absurd q9 (by decide)) (k := ?_)
            refine r_iload hm rfl (k := ?_)
            refine r_ireturn hm rfl rfl (by rfl) (Nat.le_of_ble_eq_true rfl) (Nat.le_of_ble_eq_true rfl) ?_
            have w10 : ¬ (wC b n P) = 0 := fun z => c10 (lg_eq0.mpr ((o64 ⟨by omega, by omega⟩ ⟨by omega, by omega⟩).mpr z))
            have w23 : ¬ (wC b n P) = a1 := fun z => c23 (lg_eq0.mpr ((o64 ⟨by omega, by omega⟩ r1).mpr z))
            have w36 : ¬ (wC b n P) = a2 := fun z => c36 (lg_eq0.mpr ((o64 ⟨by omega, by omega⟩ r2).mpr z))
            have w50 : (wC b n P) = a3 := (o64 ⟨by omega, by omega⟩ r3).mp (lg_eq0.mp (Decidable.not_not.mp c50))
            have eK : oneK (wC b n P) a1 a2 a3 = 2 := by unfold oneK; rw [if_neg w10, if_neg w23, if_neg w36, if_pos w50]
            rw [eK]
            exact ⟨SmL.put SA (by omega), by rw [putI_eq, if_neg (by omega)], rfl⟩
          · exact absurd c63 (by decide)
      · refine r_iconst hm rfl (k := ?_)
        refine r_goto (t := 58) hm rfl (k := ?_)
        refine r_istore hm rfl (k := ?_)
        refine r_aload_n hm rfl (k := ?_)
        refine r_iload hm rfl (k := ?_)
        refine r_if_ge (t := 73) hm rfl rfl (fun c63 => ?_) (fun c63 => ?_)
        · refine r_aload_n hm rfl (k := ?_)
          refine r_getI (hm := hm) (hf := rfl) (hd := rfl) (hs := (by first | assumption | exact (g1.1 _).trans rfl)) (hv := (by first | exact putI_eq | exact (putI_ne (by omega)).trans (by first | exact putI_eq | exact (putI_ne (by omega)).trans (by first | first | assumption | exact g1.2 _ _ _ rfl | exact qb _ (by omega) | exact e53) | first | assumption | exact g1.2 _ _ _ rfl | exact qb _ (by omega) | exact e53) | first | assumption | exact g1.2 _ _ _ rfl | exact qb _ (by omega) | exact e53)) (k := ?_)
          refine r_putI (hm := hm) (hf := rfl) (hd := rfl) (hs := (by first | assumption | exact (g1.1 _).trans rfl)) (hfin := Or.inl rfl) (hz := fun q9 => absurd q9 (by decide)) (k := ?_)
          refine r_iload hm rfl (k := ?_)
          refine r_ireturn hm rfl rfl (by rfl) (Nat.le_of_ble_eq_true rfl) (Nat.le_of_ble_eq_true rfl) ?_
          have w10 : ¬ (wC b n P) = 0 := fun z => c10 (lg_eq0.mpr ((o64 ⟨by omega, by omega⟩ ⟨by omega, by omega⟩).mpr z))
          have w23 : ¬ (wC b n P) = a1 := fun z => c23 (lg_eq0.mpr ((o64 ⟨by omega, by omega⟩ r1).mpr z))
          have w36 : (wC b n P) = a2 := (o64 ⟨by omega, by omega⟩ r2).mp (lg_eq0.mp (Decidable.not_not.mp c36))
          have eK : oneK (wC b n P) a1 a2 a3 = 1 := by unfold oneK; rw [if_neg w10, if_neg w23, if_pos w36]
          rw [eK]
          exact ⟨SmL.put SA (by omega), by rw [putI_eq, if_neg (by omega)], rfl⟩
        · exact absurd c63 (by decide)
    · refine r_iconst hm rfl (k := ?_)
      refine r_goto (t := 58) hm rfl (k := ?_)
      refine r_istore hm rfl (k := ?_)
      refine r_aload_n hm rfl (k := ?_)
      refine r_iload hm rfl (k := ?_)
      refine r_if_ge (t := 73) hm rfl rfl (fun c63 => ?_) (fun c63 => ?_)
      · refine r_aload_n hm rfl (k := ?_)
        refine r_getI (hm := hm) (hf := rfl) (hd := rfl) (hs := (by first | assumption | exact (g1.1 _).trans rfl)) (hv := (by first | exact putI_eq | exact (putI_ne (by omega)).trans (by first | exact putI_eq | exact (putI_ne (by omega)).trans (by first | first | assumption | exact g1.2 _ _ _ rfl | exact qb _ (by omega) | exact e53) | first | assumption | exact g1.2 _ _ _ rfl | exact qb _ (by omega) | exact e53) | first | assumption | exact g1.2 _ _ _ rfl | exact qb _ (by omega) | exact e53)) (k := ?_)
        refine r_putI (hm := hm) (hf := rfl) (hd := rfl) (hs := (by first | assumption | exact (g1.1 _).trans rfl)) (hfin := Or.inl rfl) (hz := fun q9 => absurd q9 (by decide)) (k := ?_)
        refine r_iload hm rfl (k := ?_)
        refine r_ireturn hm rfl rfl (by rfl) (Nat.le_of_ble_eq_true rfl) (Nat.le_of_ble_eq_true rfl) ?_
        have w10 : ¬ (wC b n P) = 0 := fun z => c10 (lg_eq0.mpr ((o64 ⟨by omega, by omega⟩ ⟨by omega, by omega⟩).mpr z))
        have w23 : (wC b n P) = a1 := (o64 ⟨by omega, by omega⟩ r1).mp (lg_eq0.mp (Decidable.not_not.mp c23))
        have eK : oneK (wC b n P) a1 a2 a3 = 0 := by unfold oneK; rw [if_neg w10, if_pos w23]
        rw [eK]
        exact ⟨SmL.put SA (by omega), by rw [putI_eq, if_neg (by omega)], rfl⟩
      · exact absurd c63 (by decide)
  · refine r_iconst hm rfl (k := ?_)
    refine r_goto (t := 58) hm rfl (k := ?_)
    refine r_istore hm rfl (k := ?_)
    refine r_aload_n hm rfl (k := ?_)
    refine r_iload hm rfl (k := ?_)
    refine r_if_ge (t := 73) hm rfl rfl (fun c63 => ?_) (fun c63 => ?_)
    · exact absurd c63 (by decide)
    · refine r_aload_n hm rfl (k := ?_)
      refine r_getI (hm := hm) (hf := rfl) (hd := rfl) (hs := (by first | assumption | exact (g1.1 _).trans rfl)) (hv := (by first | exact putI_eq | exact (putI_ne (by omega)).trans (by first | exact putI_eq | exact (putI_ne (by omega)).trans (by first | first | assumption | exact g1.2 _ _ _ rfl | exact qb _ (by omega) | exact e53) | first | assumption | exact g1.2 _ _ _ rfl | exact qb _ (by omega) | exact e53) | first | assumption | exact g1.2 _ _ _ rfl | exact qb _ (by omega) | exact e53)) (k := ?_)
      refine r_goto (t := 77) hm rfl (k := ?_)
      refine r_putI (hm := hm) (hf := rfl) (hd := rfl) (hs := (by first | assumption | exact (g1.1 _).trans rfl)) (hfin := Or.inl rfl) (hz := fun q9 => absurd q9 (by decide)) (k := ?_)
      refine r_iload hm rfl (k := ?_)
      refine r_ireturn hm rfl rfl (by rfl) (Nat.le_of_ble_eq_true rfl) (Nat.le_of_ble_eq_true rfl) ?_
      have w10 : (wC b n P) = 0 := (o64 ⟨by omega, by omega⟩ ⟨by omega, by omega⟩).mp (lg_eq0.mp (Decidable.not_not.mp c10))
      have eK : oneK (wC b n P) a1 a2 a3 = -1 := by unfold oneK; rw [if_pos w10]
      rw [eK]
      exact ⟨SmL.put SA (by omega), by rw [putI_eq, if_pos (by omega)], rfl⟩
set_option maxHeartbeats 4000000 in
set_option maxRecDepth 8000 in
theorem m_readNumber {L : Nat} {h : Hp} {b : Nat → Int} {n : Nat} (Q : MQr L h b n) {p : Nat} (hp : h.2.1 1085 51 = (p : Int)) (hpn : p ≤ n) {lo hi : Int} (hl : 0 ≤ lo ∧ lo ≤ 100 ∧ 0 ≤ hi ∧ hi ≤ 100) : RN 236 0 [some (.inr (.inr (some (1085)))), some (.inl lo), some (.inl hi), none, none] [] h 0 0 (fun v h2 => SmL (fun a k => a = 1085 ∧ (k = 50 ∨ k = 51 ∨ k = 55)) h h2 ∧ ∃ x, v = some (.inl x) ∧ ((tkz b n (sk b n p) ≠ 2 ∧ x = 1 ∧ h2.2.1 1085 51 = (((sk b n p) : Nat) : Int) ∧ h2.2.1 1085 50 = (((sk b n p) : Nat) : Int)) ∨ (tkz b n (sk b n p) = 2 ∧ (vl b n (sk b n p) < lo ∨ hi < vl b n (sk b n p)) ∧ x = 2 ∧ h2.2.1 1085 51 = ((tez b n (sk b n p) : Nat) : Int) ∧ h2.2.1 1085 50 = (((sk b n p) : Nat) : Int)) ∨ (tkz b n (sk b n p) = 2 ∧ ¬ (vl b n (sk b n p) < lo ∨ hi < vl b n (sk b n p)) ∧ x = 0 ∧ h2.2.1 1085 51 = ((tez b n (sk b n p) : Nat) : Int) ∧ h2.2.1 1085 50 = h.2.1 1085 50 ∧ h2.2.1 1085 55 = vl b n (sk b n p)))) := by
  have hm : mrec 236 = some nM236 := rfl
  obtain ⟨g1, ql, qn, qb, qr⟩ := id Q
  refine r_aload_n hm rfl (k := ?_)
  refine r_callv (j2 := 228) hm rfl rfl rfl rfl rfl rfl (by first | assumption | exact (g1.1 _).trans rfl) (Nat.le_of_ble_eq_true rfl) (Nat.le_of_ble_eq_true rfl) rfl ⟨Nat.le_of_ble_eq_true rfl, Nat.le_of_ble_eq_true rfl, Nat.le_of_ble_eq_true rfl, Nat.le_of_ble_eq_true rfl, Nat.le_of_ble_eq_true rfl⟩ rfl (m_here Q hp hpn) (fun v9 h9 p9 => ?_)
  obtain ⟨SA, e5, e1⟩ := p9
  subst e1
  have Q1 := Q.fr SA (fun a k z => by omega)
  obtain ⟨g1, ql, qn, qb, qr⟩ := id Q1
  have hPn := (sk_rng (b := b) hpn).2.1
  obtain ⟨P, hP⟩ : ∃ P, sk b n p = P := ⟨_, rfl⟩
  rw [hP] at hPn e5
  rw [hP]
  have e50 : h9.2.1 1085 50 = h.2.1 1085 50 := SA.2.2 _ _ (by omega)
  have hhr : -1 ≤ hr9 b n P ∧ hr9 b n P ≤ 255 ∧ (48 ≤ hr9 b n P → P < n ∧ hr9 b n P = b P) ∧ (P < n → hr9 b n P = b P) := by
    unfold hr9
    by_cases c : P < n
    · rw [if_pos c]; have := qr P c; omega
    · rw [if_neg c]; omega
  have htk : tkz b n P = 2 ↔ (48 ≤ hr9 b n P ∧ hr9 b n P ≤ 57) := by
    unfold tkz
    by_cases c : P < n
    · rw [if_pos c, srt2, hhr.2.2.2 c]
    · rw [if_neg c]; constructor <;> (intro z; omega)
  change RN 236 4 _ _ _ 0 0 _
  dsimp only [Option.toList, List.cons_append, List.nil_append]
  refine r_istore_n hm rfl (k := ?_)
  have hI9 := hhr
  refine r_iload_n hm rfl (k := ?_)
  refine r_i2l hm rfl (k := ?_)
  refine r_ldc2 hm rfl (hd := rfl) (k := ?_)
  refine r_ldc2 hm rfl (hd := rfl) (k := ?_)
  refine r_calls (j2 := 162) hm rfl rfl rfl rfl rfl rfl (Nat.le_of_ble_eq_true rfl) (Nat.le_of_ble_eq_true rfl) rfl ⟨Nat.le_of_ble_eq_true rfl, Nat.le_of_ble_eq_true rfl, Nat.le_of_ble_eq_true rfl, Nat.le_of_ble_eq_true rfl, Nat.le_of_ble_eq_true rfl⟩ rfl (m_in (z := hr9 b n P) (a := 48) (b := 57) (zL_t ⟨by omega, by omega⟩) rfl rfl) (fun v9 h9 p9 => ?_)
  obtain ⟨e1, e2⟩ := p9
  subst e2
  replace e1 := e1.symm
  subst e1
  obtain ⟨b9, eb9, hb9⟩ := ite01 (p := (48 : Int) ≤ hr9 b n P ∧ hr9 b n P ≤ (57 : Int))
  rw [eb9]
  change RN 236 16 _ _ _ 0 0 _
  dsimp only [Option.toList, List.cons_append, List.nil_append]
  refine r_if_ne (t := 29) hm rfl rfl (fun c16 => ?_) (fun c16 => ?_)
  · refine r_aload_n hm rfl (k := ?_)
    refine r_getI (hm := hm) (hf := rfl) (hd := rfl) (hs := (by first | assumption | exact (g1.1 _).trans rfl)) (hv := (by first | exact putI_eq | exact (putI_ne (by omega)).trans (by first | exact putI_eq | exact (putI_ne (by omega)).trans (by first | first | assumption | exact g1.2 _ _ _ rfl | exact qb _ (by omega)) | first | assumption | exact g1.2 _ _ _ rfl | exact qb _ (by omega)) | first | assumption | exact g1.2 _ _ _ rfl | exact qb _ (by omega))) (k := ?_)
    refine r_istore hm rfl (k := ?_)
    refine r_aload_n hm rfl (k := ?_)
    refine r_iconst hm rfl (k := ?_)
    refine r_putI (hm := hm) (hf := rfl) (hd := rfl) (hs := (by first | assumption | exact (g1.1 _).trans rfl)) (hfin := Or.inl rfl) (hz := fun q9 => absurd q9 (by decide)) (k := ?_)
    have t2 : tkz b n P = 2 := htk.mpr (by omega)
    have hPl : P < n := by omega
    have eRun : tez b n P = ruN b 2 (n - P) P := by rw [tez_run hPl (Or.inr t2), t2]
    suffices LP : ∀ (d q : Nat) (y : Int) (h1 : Hp), q + d = n → P ≤ q → SmL (fun a k => a = 1085 ∧ (k = 50 ∨ k = 51 ∨ k = 55)) h h1 → h1.2.1 1085 51 = (q : Int) → h1.2.1 1085 55 = y → h1.2.1 1085 50 = h.2.1 1085 50 → tez b n P = ruN b 2 (n - q) q → 0 ≤ y ∧ y ≤ 10009 → (q = P → y = 0) → (q = P + 1 → y ≤ 9) → (tez b n P - P ≤ 2 → vlN b (tez b n P - q) q y = vlN b (tez b n P - P) P 0) → RN 236 40 [some (.inr (.inr (some (1085)))), some (.inl lo), some (.inl hi), some (.inl (hr9 b n P)), some (.inl (P : Int))] [] h1 0 0 (fun v h2 => SmL (fun a k => a = 1085 ∧ (k = 50 ∨ k = 51 ∨ k = 55)) h h2 ∧ ∃ x, v = some (.inl x) ∧ ((tkz b n P ≠ 2 ∧ x = 1 ∧ h2.2.1 1085 51 = ((P : Nat) : Int) ∧ h2.2.1 1085 50 = ((P : Nat) : Int)) ∨ (tkz b n P = 2 ∧ (vl b n P < lo ∨ hi < vl b n P) ∧ x = 2 ∧ h2.2.1 1085 51 = ((tez b n P : Nat) : Int) ∧ h2.2.1 1085 50 = ((P : Nat) : Int)) ∨ (tkz b n P = 2 ∧ ¬ (vl b n P < lo ∨ hi < vl b n P) ∧ x = 0 ∧ h2.2.1 1085 51 = ((tez b n P : Nat) : Int) ∧ h2.2.1 1085 50 = h.2.1 1085 50 ∧ h2.2.1 1085 55 = vl b n P))) from LP (n - P) P 0 _ (by omega) (Nat.le_refl _) (SmL.put (SA.mono (fun a k z => by omega)) (by omega)) (by rw [putI_ne (by omega)]; exact e5) putI_eq (by rw [putI_ne (by omega)]; exact e50) eRun (by omega) (fun _ => rfl) (fun z => by omega) (fun _ => rfl)
    clear Q1 g1 ql qn qb qr SA e5 e50
    refine fun d => Nat.strongRecOn d (fun d ih => ?_)
    intro q y h1 hd hPq S1 e51 e55 e50 eR y1 y2 y3 y4
    have Q1 := Q.fr S1 (fun a k z => by omega)
    obtain ⟨g1, ql, qn, qb, qr⟩ := id Q1
    have k9 := ruN_go (b := b) (t := 2) (d := n - q) (p := q)
    refine r_aload_n hm rfl (k := ?_)
    refine r_getI (hm := hm) (hf := rfl) (hd := rfl) (hs := (by first | assumption | exact (g1.1 _).trans rfl)) (hv := (by first | exact putI_eq | exact (putI_ne (by omega)).trans (by first | exact putI_eq | exact (putI_ne (by omega)).trans (by first | first | assumption | exact g1.2 _ _ _ rfl | exact qb _ (by omega)) | first | assumption | exact g1.2 _ _ _ rfl | exact qb _ (by omega)) | first | assumption | exact g1.2 _ _ _ rfl | exact qb _ (by omega))) (k := ?_)
    refine r_aload_n hm rfl (k := ?_)
    refine r_getI (hm := hm) (hf := rfl) (hd := rfl) (hs := (by first | assumption | exact (g1.1 _).trans rfl)) (hv := (by first | exact putI_eq | exact (putI_ne (by omega)).trans (by first | exact putI_eq | exact (putI_ne (by omega)).trans (by first | first | assumption | exact g1.2 _ _ _ rfl | exact qb _ (by omega)) | first | assumption | exact g1.2 _ _ _ rfl | exact qb _ (by omega)) | first | assumption | exact g1.2 _ _ _ rfl | exact qb _ (by omega))) (k := ?_)
    refine r_icmp_ge (t := 127) hm rfl rfl (fun c48 => ?_) (fun c48 => ?_)
    · refine r_aload_n hm rfl (k := ?_)
      refine r_getI (hm := hm) (hf := rfl) (hd := rfl) (hs := (by first | assumption | exact (g1.1 _).trans rfl)) (hv := (by first | exact putI_eq | exact (putI_ne (by omega)).trans (by first | exact putI_eq | exact (putI_ne (by omega)).trans (by first | first | assumption | exact g1.2 _ _ _ rfl | exact qb _ (by omega)) | first | assumption | exact g1.2 _ _ _ rfl | exact qb _ (by omega)) | first | assumption | exact g1.2 _ _ _ rfl | exact qb _ (by omega))) (k := ?_)
      refine r_iload hm rfl (k := ?_)
      refine r_isub hm rfl (hr := (by omega)) (k := ?_)
      refine r_iconst hm rfl (k := ?_)
      refine r_icmp_gt (t := 153) hm rfl rfl (fun c135 => ?_) (fun c135 => ?_)
      · refine r_aload_n hm rfl (k := ?_)
        refine r_iconst hm rfl (k := ?_)
        refine r_iload hm rfl (k := ?_)
        refine r_callv (j2 := 234) hm rfl rfl rfl rfl rfl rfl (by first | assumption | exact (g1.1 _).trans rfl) (Nat.le_of_ble_eq_true rfl) (Nat.le_of_ble_eq_true rfl) rfl ⟨Nat.le_of_ble_eq_true rfl, Nat.le_of_ble_eq_true rfl, Nat.le_of_ble_eq_true rfl, Nat.le_of_ble_eq_true rfl, Nat.le_of_ble_eq_true rfl⟩ rfl (m_fails Q1) (fun v9 h9 p9 => ?_)
        obtain ⟨e1, e2⟩ := p9
        subst e2
        subst e1
        change RN 236 160 _ _ _ 0 0 _
        dsimp only [Option.toList, List.cons_append, List.nil_append]
        refine r_goto (t := 164) hm rfl (k := ?_)
        refine r_ireturn hm rfl rfl (by rfl) (Nat.le_of_ble_eq_true rfl) (Nat.le_of_ble_eq_true rfl) ?_
        have eE : tez b n P = q := by rw [eR, show n - q = 0 by omega]; rfl
        have t2 : tkz b n P = 2 := htk.mpr (by omega)
        have ev : vl b n P = -1 := by unfold vl; rw [if_pos (by omega)]
        refine ⟨SmL.put S1 (by omega), 2, rfl, Or.inr (Or.inl ⟨t2, by omega, rfl, ?_, putI_eq⟩)⟩
        rw [putI_ne (by omega), eE]; exact e51
      · refine r_aload_n hm rfl (k := ?_)
        refine r_getI (hm := hm) (hf := rfl) (hd := rfl) (hs := (by first | assumption | exact (g1.1 _).trans rfl)) (hv := (by first | exact putI_eq | exact (putI_ne (by omega)).trans (by first | exact putI_eq | exact (putI_ne (by omega)).trans (by first | first | assumption | exact g1.2 _ _ _ rfl | exact qb _ (by omega)) | first | assumption | exact g1.2 _ _ _ rfl | exact qb _ (by omega)) | first | assumption | exact g1.2 _ _ _ rfl | exact qb _ (by omega))) (k := ?_)
        refine r_i2l hm rfl (k := ?_)
        refine r_iload_n hm rfl (k := ?_)
        refine r_i2l hm rfl (k := ?_)
        refine r_iload_n hm rfl (k := ?_)
        refine r_i2l hm rfl (k := ?_)
        refine r_calls (j2 := 162) hm rfl rfl rfl rfl rfl rfl (Nat.le_of_ble_eq_true rfl) (Nat.le_of_ble_eq_true rfl) rfl ⟨Nat.le_of_ble_eq_true rfl, Nat.le_of_ble_eq_true rfl, Nat.le_of_ble_eq_true rfl, Nat.le_of_ble_eq_true rfl, Nat.le_of_ble_eq_true rfl⟩ rfl (m_in (z := y) (a := lo) (b := hi) (zL_t ⟨by omega, by omega⟩) (zL_t ⟨by omega, by omega⟩) (zL_t ⟨by omega, by omega⟩)) (fun v9 h9 p9 => ?_)
        obtain ⟨e1, e2⟩ := p9
        subst e2
        replace e1 := e1.symm
        subst e1
        obtain ⟨b7, eb7, hb7⟩ := ite01 (p := (lo : Int) ≤ y ∧ y ≤ (hi : Int))
        rw [eb7]
        change RN 236 150 _ _ _ 0 0 _
        dsimp only [Option.toList, List.cons_append, List.nil_append]
        refine r_if_ne (t := 163) hm rfl rfl (fun c150 => ?_) (fun c150 => ?_)
        · refine r_iconst hm rfl (k := ?_)
          refine r_ireturn hm rfl rfl (by rfl) (Nat.le_of_ble_eq_true rfl) (Nat.le_of_ble_eq_true rfl) ?_
          have eE : tez b n P = q := by rw [eR, show n - q = 0 by omega]; rfl
          have t2 : tkz b n P = 2 := htk.mpr (by omega)
          have ev : vl b n P = y := by unfold vl; rw [if_neg (by omega), ← y4 (by omega), eE, Nat.sub_self]; rfl
          exact ⟨S1, 0, rfl, Or.inr (Or.inr ⟨t2, by omega, rfl, by rw [eE]; exact e51, e50, by rw [ev]; exact e55⟩)⟩
        · refine r_aload_n hm rfl (k := ?_)
          refine r_iconst hm rfl (k := ?_)
          refine r_iload hm rfl (k := ?_)
          refine r_callv (j2 := 234) hm rfl rfl rfl rfl rfl rfl (by first | assumption | exact (g1.1 _).trans rfl) (Nat.le_of_ble_eq_true rfl) (Nat.le_of_ble_eq_true rfl) rfl ⟨Nat.le_of_ble_eq_true rfl, Nat.le_of_ble_eq_true rfl, Nat.le_of_ble_eq_true rfl, Nat.le_of_ble_eq_true rfl, Nat.le_of_ble_eq_true rfl⟩ rfl (m_fails Q1) (fun v9 h9 p9 => ?_)
          obtain ⟨e1, e2⟩ := p9
          subst e2
          subst e1
          change RN 236 160 _ _ _ 0 0 _
          dsimp only [Option.toList, List.cons_append, List.nil_append]
          refine r_goto (t := 164) hm rfl (k := ?_)
          refine r_ireturn hm rfl rfl (by rfl) (Nat.le_of_ble_eq_true rfl) (Nat.le_of_ble_eq_true rfl) ?_
          have eE : tez b n P = q := by rw [eR, show n - q = 0 by omega]; rfl
          have t2 : tkz b n P = 2 := htk.mpr (by omega)
          have ev : vl b n P = y := by unfold vl; rw [if_neg (by omega), ← y4 (by omega), eE, Nat.sub_self]; rfl
          refine ⟨SmL.put S1 (by omega), 2, rfl, Or.inr (Or.inl ⟨t2, by omega, rfl, ?_, putI_eq⟩)⟩
          rw [putI_ne (by omega), eE]; exact e51
    · refine r_aload_n hm rfl (k := ?_)
      refine r_getR (hm := hm) (hf := rfl) (hd := rfl) (hs := (by first | assumption | exact (g1.1 _).trans rfl)) (hv := (by first | exact putI_eq | exact (putI_ne (by omega)).trans (by first | exact putI_eq | exact (putI_ne (by omega)).trans (by first | first | assumption | exact g1.2 _ _ _ rfl | exact qb _ (by omega)) | first | assumption | exact g1.2 _ _ _ rfl | exact qb _ (by omega)) | first | assumption | exact g1.2 _ _ _ rfl | exact qb _ (by omega))) (k := ?_)
      refine r_aload_n hm rfl (k := ?_)
      refine r_getI (hm := hm) (hf := rfl) (hd := rfl) (hs := (by first | assumption | exact (g1.1 _).trans rfl)) (hv := (by first | exact putI_eq | exact (putI_ne (by omega)).trans (by first | exact putI_eq | exact (putI_ne (by omega)).trans (by first | first | assumption | exact g1.2 _ _ _ rfl | exact qb _ (by omega)) | first | assumption | exact g1.2 _ _ _ rfl | exact qb _ (by omega)) | first | assumption | exact g1.2 _ _ _ rfl | exact qb _ (by omega))) (k := ?_)
      refine r_iald (hm := hm) (hf := rfl) (hs := (by first | assumption | exact (g1.1 _).trans rfl)) (kk := q) (hi := by omega) (hn := (by omega)) (hv := (by first | exact putI_eq | exact (putI_ne (by omega)).trans (by first | exact putI_eq | exact (putI_ne (by omega)).trans (by first | first | assumption | exact g1.2 _ _ _ rfl | exact qb _ (by omega)) | first | assumption | exact g1.2 _ _ _ rfl | exact qb _ (by omega)) | first | assumption | exact g1.2 _ _ _ rfl | exact qb _ (by omega))) (k := ?_)
      have br := qr q (by omega)
      refine r_i2l hm rfl (k := ?_)
      refine r_ldc2 hm rfl (hd := rfl) (k := ?_)
      refine r_ldc2 hm rfl (hd := rfl) (k := ?_)
      refine r_calls (j2 := 162) hm rfl rfl rfl rfl rfl rfl (Nat.le_of_ble_eq_true rfl) (Nat.le_of_ble_eq_true rfl) rfl ⟨Nat.le_of_ble_eq_true rfl, Nat.le_of_ble_eq_true rfl, Nat.le_of_ble_eq_true rfl, Nat.le_of_ble_eq_true rfl, Nat.le_of_ble_eq_true rfl⟩ rfl (m_in (z := b q) (a := 48) (b := 57) (zL_t ⟨by omega, by omega⟩) rfl rfl) (fun v9 h9 p9 => ?_)
      obtain ⟨e1, e2⟩ := p9
      subst e2
      replace e1 := e1.symm
      subst e1
      obtain ⟨b9, eb9, hb9⟩ := ite01 (p := (48 : Int) ≤ b q ∧ b q ≤ (57 : Int))
      rw [eb9]
      change RN 236 70 _ _ _ 0 0 _
      dsimp only [Option.toList, List.cons_append, List.nil_append]
      refine r_if_eq (t := 127) hm rfl rfl (fun c70 => ?_) (fun c70 => ?_)
      · refine r_aload_n hm rfl (k := ?_)
        refine r_getI (hm := hm) (hf := rfl) (hd := rfl) (hs := (by first | assumption | exact (g1.1 _).trans rfl)) (hv := (by first | exact putI_eq | exact (putI_ne (by omega)).trans (by first | exact putI_eq | exact (putI_ne (by omega)).trans (by first | first | assumption | exact g1.2 _ _ _ rfl | exact qb _ (by omega)) | first | assumption | exact g1.2 _ _ _ rfl | exact qb _ (by omega)) | first | assumption | exact g1.2 _ _ _ rfl | exact qb _ (by omega))) (k := ?_)
        refine r_iload hm rfl (k := ?_)
        refine r_isub hm rfl (hr := (by omega)) (k := ?_)
        refine r_iconst hm rfl (k := ?_)
        refine r_icmp_gt (t := 153) hm rfl rfl (fun c135 => ?_) (fun c135 => ?_)
        · refine r_aload_n hm rfl (k := ?_)
          refine r_iconst hm rfl (k := ?_)
          refine r_iload hm rfl (k := ?_)
          refine r_callv (j2 := 234) hm rfl rfl rfl rfl rfl rfl (by first | assumption | exact (g1.1 _).trans rfl) (Nat.le_of_ble_eq_true rfl) (Nat.le_of_ble_eq_true rfl) rfl ⟨Nat.le_of_ble_eq_true rfl, Nat.le_of_ble_eq_true rfl, Nat.le_of_ble_eq_true rfl, Nat.le_of_ble_eq_true rfl, Nat.le_of_ble_eq_true rfl⟩ rfl (m_fails Q1) (fun v9 h9 p9 => ?_)
          obtain ⟨e1, e2⟩ := p9
          subst e2
          subst e1
          change RN 236 160 _ _ _ 0 0 _
          dsimp only [Option.toList, List.cons_append, List.nil_append]
          refine r_goto (t := 164) hm rfl (k := ?_)
          refine r_ireturn hm rfl rfl (by rfl) (Nat.le_of_ble_eq_true rfl) (Nat.le_of_ble_eq_true rfl) ?_
          have eE : tez b n P = q := by rw [eR, k9 (by omega), if_neg (fun z => by have := srt2.mp z; omega)]
          have t2 : tkz b n P = 2 := htk.mpr (by omega)
          have ev : vl b n P = -1 := by unfold vl; rw [if_pos (by omega)]
          refine ⟨SmL.put S1 (by omega), 2, rfl, Or.inr (Or.inl ⟨t2, by omega, rfl, ?_, putI_eq⟩)⟩
          rw [putI_ne (by omega), eE]; exact e51
        · refine r_aload_n hm rfl (k := ?_)
          refine r_getI (hm := hm) (hf := rfl) (hd := rfl) (hs := (by first | assumption | exact (g1.1 _).trans rfl)) (hv := (by first | exact putI_eq | exact (putI_ne (by omega)).trans (by first | exact putI_eq | exact (putI_ne (by omega)).trans (by first | first | assumption | exact g1.2 _ _ _ rfl | exact qb _ (by omega)) | first | assumption | exact g1.2 _ _ _ rfl | exact qb _ (by omega)) | first | assumption | exact g1.2 _ _ _ rfl | exact qb _ (by omega))) (k := ?_)
          refine r_i2l hm rfl (k := ?_)
          refine r_iload_n hm rfl (k := ?_)
          refine r_i2l hm rfl (k := ?_)
          refine r_iload_n hm rfl (k := ?_)
          refine r_i2l hm rfl (k := ?_)
          refine r_calls (j2 := 162) hm rfl rfl rfl rfl rfl rfl (Nat.le_of_ble_eq_true rfl) (Nat.le_of_ble_eq_true rfl) rfl ⟨Nat.le_of_ble_eq_true rfl, Nat.le_of_ble_eq_true rfl, Nat.le_of_ble_eq_true rfl, Nat.le_of_ble_eq_true rfl, Nat.le_of_ble_eq_true rfl⟩ rfl (m_in (z := y) (a := lo) (b := hi) (zL_t ⟨by omega, by omega⟩) (zL_t ⟨by omega, by omega⟩) (zL_t ⟨by omega, by omega⟩)) (fun v9 h9 p9 => ?_)
          obtain ⟨e1, e2⟩ := p9
          subst e2
          replace e1 := e1.symm
          subst e1
          obtain ⟨b7, eb7, hb7⟩ := ite01 (p := (lo : Int) ≤ y ∧ y ≤ (hi : Int))
          rw [eb7]
          change RN 236 150 _ _ _ 0 0 _
          dsimp only [Option.toList, List.cons_append, List.nil_append]
          refine r_if_ne (t := 163) hm rfl rfl (fun c150 => ?_) (fun c150 => ?_)
          · refine r_iconst hm rfl (k := ?_)
            refine r_ireturn hm rfl rfl (by rfl) (Nat.le_of_ble_eq_true rfl) (Nat.le_of_ble_eq_true rfl) ?_
            have eE : tez b n P = q := by rw [eR, k9 (by omega), if_neg (fun z => by have := srt2.mp z; omega)]
            have t2 : tkz b n P = 2 := htk.mpr (by omega)
            have ev : vl b n P = y := by unfold vl; rw [if_neg (by omega), ← y4 (by omega), eE, Nat.sub_self]; rfl
            exact ⟨S1, 0, rfl, Or.inr (Or.inr ⟨t2, by omega, rfl, by rw [eE]; exact e51, e50, by rw [ev]; exact e55⟩)⟩
          · refine r_aload_n hm rfl (k := ?_)
            refine r_iconst hm rfl (k := ?_)
            refine r_iload hm rfl (k := ?_)
            refine r_callv (j2 := 234) hm rfl rfl rfl rfl rfl rfl (by first | assumption | exact (g1.1 _).trans rfl) (Nat.le_of_ble_eq_true rfl) (Nat.le_of_ble_eq_true rfl) rfl ⟨Nat.le_of_ble_eq_true rfl, Nat.le_of_ble_eq_true rfl, Nat.le_of_ble_eq_true rfl, Nat.le_of_ble_eq_true rfl, Nat.le_of_ble_eq_true rfl⟩ rfl (m_fails Q1) (fun v9 h9 p9 => ?_)
            obtain ⟨e1, e2⟩ := p9
            subst e2
            subst e1
            change RN 236 160 _ _ _ 0 0 _
            dsimp only [Option.toList, List.cons_append, List.nil_append]
            refine r_goto (t := 164) hm rfl (k := ?_)
            refine r_ireturn hm rfl rfl (by rfl) (Nat.le_of_ble_eq_true rfl) (Nat.le_of_ble_eq_true rfl) ?_
            have eE : tez b n P = q := by rw [eR, k9 (by omega), if_neg (fun z => by have := srt2.mp z; omega)]
            have t2 : tkz b n P = 2 := htk.mpr (by omega)
            have ev : vl b n P = y := by unfold vl; rw [if_neg (by omega), ← y4 (by omega), eE, Nat.sub_self]; rfl
            refine ⟨SmL.put S1 (by omega), 2, rfl, Or.inr (Or.inl ⟨t2, by omega, rfl, ?_, putI_eq⟩)⟩
            rw [putI_ne (by omega), eE]; exact e51
      · refine r_aload_n hm rfl (k := ?_)
        refine r_aload_n hm rfl (k := ?_)
        refine r_getI (hm := hm) (hf := rfl) (hd := rfl) (hs := (by first | assumption | exact (g1.1 _).trans rfl)) (hv := (by first | exact putI_eq | exact (putI_ne (by omega)).trans (by first | exact putI_eq | exact (putI_ne (by omega)).trans (by first | first | assumption | exact g1.2 _ _ _ rfl | exact qb _ (by omega)) | first | assumption | exact g1.2 _ _ _ rfl | exact qb _ (by omega)) | first | assumption | exact g1.2 _ _ _ rfl | exact qb _ (by omega))) (k := ?_)
        refine r_sipush hm rfl (k := ?_)
        refine r_icmp_le (t := 91) hm rfl rfl (fun c81 => ?_) (fun c81 => ?_)
        · refine r_bipush hm rfl (k := ?_)
          refine r_aload_n hm rfl (k := ?_)
          refine r_getI (hm := hm) (hf := rfl) (hd := rfl) (hs := (by first | assumption | exact (g1.1 _).trans rfl)) (hv := (by first | exact putI_eq | exact (putI_ne (by omega)).trans (by first | exact putI_eq | exact (putI_ne (by omega)).trans (by first | first | assumption | exact g1.2 _ _ _ rfl | exact qb _ (by omega)) | first | assumption | exact g1.2 _ _ _ rfl | exact qb _ (by omega)) | first | assumption | exact g1.2 _ _ _ rfl | exact qb _ (by omega))) (k := ?_)
          refine r_imul hm rfl (hr := (by omega)) (k := ?_)
          refine r_aload_n hm rfl (k := ?_)
          refine r_getR (hm := hm) (hf := rfl) (hd := rfl) (hs := (by first | assumption | exact (g1.1 _).trans rfl)) (hv := (by first | exact putI_eq | exact (putI_ne (by omega)).trans (by first | exact putI_eq | exact (putI_ne (by omega)).trans (by first | first | assumption | exact g1.2 _ _ _ rfl | exact qb _ (by omega)) | first | assumption | exact g1.2 _ _ _ rfl | exact qb _ (by omega)) | first | assumption | exact g1.2 _ _ _ rfl | exact qb _ (by omega))) (k := ?_)
          refine r_aload_n hm rfl (k := ?_)
          refine r_getI (hm := hm) (hf := rfl) (hd := rfl) (hs := (by first | assumption | exact (g1.1 _).trans rfl)) (hv := (by first | exact putI_eq | exact (putI_ne (by omega)).trans (by first | exact putI_eq | exact (putI_ne (by omega)).trans (by first | first | assumption | exact g1.2 _ _ _ rfl | exact qb _ (by omega)) | first | assumption | exact g1.2 _ _ _ rfl | exact qb _ (by omega)) | first | assumption | exact g1.2 _ _ _ rfl | exact qb _ (by omega))) (k := ?_)
          refine r_iald (hm := hm) (hf := rfl) (hs := (by first | assumption | exact (g1.1 _).trans rfl)) (kk := q) (hi := by omega) (hn := (by omega)) (hv := (by first | exact putI_eq | exact (putI_ne (by omega)).trans (by first | exact putI_eq | exact (putI_ne (by omega)).trans (by first | first | assumption | exact g1.2 _ _ _ rfl | exact qb _ (by omega)) | first | assumption | exact g1.2 _ _ _ rfl | exact qb _ (by omega)) | first | assumption | exact g1.2 _ _ _ rfl | exact qb _ (by omega))) (k := ?_)
          refine r_iadd hm rfl (hr := (by omega)) (k := ?_)
          refine r_bipush hm rfl (k := ?_)
          refine r_isub hm rfl (hr := (by omega)) (k := ?_)
          refine r_putI (hm := hm) (hf := rfl) (hd := rfl) (hs := (by first | assumption | exact (g1.1 _).trans rfl)) (hfin := Or.inl rfl) (hz := fun q9 => absurd q9 (by decide)) (k := ?_)
          refine r_aload_n hm rfl (k := ?_)
          refine r_dup hm rfl (k := ?_)
          refine r_getI (hm := hm) (hf := rfl) (hd := rfl) (hs := (by first | assumption | exact (g1.1 _).trans rfl)) (hv := (by first | exact putI_eq | exact (putI_ne (by omega)).trans (by first | exact putI_eq | exact (putI_ne (by omega)).trans (by first | first | assumption | exact g1.2 _ _ _ rfl | exact qb _ (by omega)) | first | assumption | exact g1.2 _ _ _ rfl | exact qb _ (by omega)) | first | assumption | exact g1.2 _ _ _ rfl | exact qb _ (by omega))) (k := ?_)
          refine r_iconst hm rfl (k := ?_)
          refine r_iadd hm rfl (hr := (by omega)) (k := ?_)
          refine r_putI (hm := hm) (hf := rfl) (hd := rfl) (hs := (by first | assumption | exact (g1.1 _).trans rfl)) (hfin := Or.inl rfl) (hz := fun q9 => absurd q9 (by decide)) (k := ?_)
          refine r_goto (t := 40) hm rfl (k := ?_)
          have eR2 : tez b n P = ruN b 2 (n - (q + 1)) (q + 1) := by rw [eR, k9 (by omega), if_pos (srt2.mpr (by omega)), show n - q - 1 = n - (q + 1) by omega]
          have hge := (ruN_rng (b := b) (t := 2) (n - (q + 1)) (q + 1)).1
          rw [← eR2] at hge
          exact ih (d - 1) (by omega) (q + 1) _ _ (by omega) (by omega) (SmL.put (SmL.put S1 (by omega)) (by omega)) putI_eq (by rw [putI_ne (by omega), putI_eq]) (by rw [putI_ne (by omega), putI_ne (by omega)]; exact e50) eR2 (by omega) (fun z => by omega) (fun z => by have := y2 (by omega); omega) (fun z => by
            have := y4 z
            rw [← this, show tez b n P - q = (tez b n P - (q + 1)) + 1 by omega]
            show _ = vlN b (tez b n P - (q + 1)) (q + 1) (y * 10 + b q - 48)
            rw [Int.mul_comm])
        · refine r_aload_n hm rfl (k := ?_)
          refine r_getI (hm := hm) (hf := rfl) (hd := rfl) (hs := (by first | assumption | exact (g1.1 _).trans rfl)) (hv := (by first | exact putI_eq | exact (putI_ne (by omega)).trans (by first | exact putI_eq | exact (putI_ne (by omega)).trans (by first | first | assumption | exact g1.2 _ _ _ rfl | exact qb _ (by omega)) | first | assumption | exact g1.2 _ _ _ rfl | exact qb _ (by omega)) | first | assumption | exact g1.2 _ _ _ rfl | exact qb _ (by omega))) (k := ?_)
          refine r_goto (t := 111) hm rfl (k := ?_)
          refine r_putI (hm := hm) (hf := rfl) (hd := rfl) (hs := (by first | assumption | exact (g1.1 _).trans rfl)) (hfin := Or.inl rfl) (hz := fun q9 => absurd q9 (by decide)) (k := ?_)
          refine r_aload_n hm rfl (k := ?_)
          refine r_dup hm rfl (k := ?_)
          refine r_getI (hm := hm) (hf := rfl) (hd := rfl) (hs := (by first | assumption | exact (g1.1 _).trans rfl)) (hv := (by first | exact putI_eq | exact (putI_ne (by omega)).trans (by first | exact putI_eq | exact (putI_ne (by omega)).trans (by first | first | assumption | exact g1.2 _ _ _ rfl | exact qb _ (by omega)) | first | assumption | exact g1.2 _ _ _ rfl | exact qb _ (by omega)) | first | assumption | exact g1.2 _ _ _ rfl | exact qb _ (by omega))) (k := ?_)
          refine r_iconst hm rfl (k := ?_)
          refine r_iadd hm rfl (hr := (by omega)) (k := ?_)
          refine r_putI (hm := hm) (hf := rfl) (hd := rfl) (hs := (by first | assumption | exact (g1.1 _).trans rfl)) (hfin := Or.inl rfl) (hz := fun q9 => absurd q9 (by decide)) (k := ?_)
          refine r_goto (t := 40) hm rfl (k := ?_)
          have eR2 : tez b n P = ruN b 2 (n - (q + 1)) (q + 1) := by rw [eR, k9 (by omega), if_pos (srt2.mpr (by omega)), show n - q - 1 = n - (q + 1) by omega]
          have hge := (ruN_rng (b := b) (t := 2) (n - (q + 1)) (q + 1)).1
          rw [← eR2] at hge
          exact ih (d - 1) (by omega) (q + 1) _ _ (by omega) (by omega) (SmL.put (SmL.put S1 (by omega)) (by omega)) putI_eq (by rw [putI_ne (by omega), putI_eq]) (by rw [putI_ne (by omega), putI_ne (by omega)]; exact e50) eR2 (by omega) (fun z => by omega) (fun z => by have := y2 (by omega); omega) (fun z => by
            exfalso; have := y2; have := y3; omega)
  · refine r_aload_n hm rfl (k := ?_)
    refine r_iconst hm rfl (k := ?_)
    refine r_aload_n hm rfl (k := ?_)
    refine r_getI (hm := hm) (hf := rfl) (hd := rfl) (hs := (by first | assumption | exact (g1.1 _).trans rfl)) (hv := (by first | exact putI_eq | exact (putI_ne (by omega)).trans (by first | exact putI_eq | exact (putI_ne (by omega)).trans (by first | first | assumption | exact g1.2 _ _ _ rfl | exact qb _ (by omega)) | first | assumption | exact g1.2 _ _ _ rfl | exact qb _ (by omega)) | first | assumption | exact g1.2 _ _ _ rfl | exact qb _ (by omega))) (k := ?_)
    refine r_callv (j2 := 234) hm rfl rfl rfl rfl rfl rfl (by first | assumption | exact (g1.1 _).trans rfl) (Nat.le_of_ble_eq_true rfl) (Nat.le_of_ble_eq_true rfl) rfl ⟨Nat.le_of_ble_eq_true rfl, Nat.le_of_ble_eq_true rfl, Nat.le_of_ble_eq_true rfl, Nat.le_of_ble_eq_true rfl, Nat.le_of_ble_eq_true rfl⟩ rfl (m_fails Q1) (fun v9 h9 p9 => ?_)
    obtain ⟨e1, e2⟩ := p9
    subst e2
    subst e1
    change RN 236 28 _ _ _ 0 0 _
    dsimp only [Option.toList, List.cons_append, List.nil_append]
    refine r_ireturn hm rfl rfl (by rfl) (Nat.le_of_ble_eq_true rfl) (Nat.le_of_ble_eq_true rfl) ?_
    refine ⟨SmL.put (SA.mono (fun a k z => by omega)) (by omega), 1, rfl, Or.inl ⟨fun z => by have := htk.mp z; omega, rfl, ?_, putI_eq⟩⟩
    rw [putI_ne (by omega)]; exact e5
