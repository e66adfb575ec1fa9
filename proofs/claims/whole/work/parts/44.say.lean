/-! the class: what the pieces say -/
theorem GG.st {L : Nat} {h : Hp} {s : Nat} (g : GG L h) (hS : isS s) : h.1[s]? = some (5, 13) ∧ h.1[s + 14]? = some (4, 7) ∧ h.1[s + 17]? = some (100, 60) ∧ h.1[s + 20]? = some (100, 12) ∧ h.1[s + 21]? = some (100, 1200) ∧ h.1[s + 22]? = some (100, 1200) ∧ h.1[s + 23]? = some (100, 1200) ∧ h.1[s + 24]? = some (100, 1200) ∧ h.2.2.1 s 0 = some (s + 1) ∧ h.2.2.1 s 1 = some (s + 14) ∧ h.2.2.1 s 2 = some (s + 20) ∧ h.2.2.1 s 3 = some 281 ∧ h.2.2.1 s 4 = some (s + 21) ∧ h.2.2.1 s 5 = some (s + 22) ∧ h.2.2.1 s 6 = some (s + 23) ∧ h.2.2.1 s 7 = some (s + 24) ∧ h.2.2.1 (s + 14) 2 = some (s + 17) := by
  rcases hS with rfl | rfl <;> refine ⟨?_, ?_, ?_, ?_, ?_, ?_, ?_, ?_, g.2 _ _ _ rfl, g.2 _ _ _ rfl, g.2 _ _ _ rfl, g.2 _ _ _ rfl, g.2 _ _ _ rfl, g.2 _ _ _ rfl, g.2 _ _ _ rfl, g.2 _ _ _ rfl, g.2 _ _ _ rfl⟩ <;> (rw [g.1]; rfl)
/-- the row at b holds F for the pieces of items below i, and of item i below k -/
def PcK (h : Hp) (b : Nat) (x : Tx) (F : LT) (i k : Nat) : Prop := (∀ q k2, q < i → k2 < pcs x q → h.2.1 b (fst x q + k2) = F q k2) ∧ ∀ k2, k2 < k → h.2.1 b (fst x i + k2) = F i k2
theorem PcK.at {h : Hp} {b : Nat} {x : Tx} {F : LT} {i k : Nat} {v : Int} (p : PcK h b x F i k) : PcK (putI h b (fst x i + k) v) b x F i k := by
  refine ⟨fun q k2 hq hk => ?_, fun k2 hk => ?_⟩
  · have := fst_lt (x := x) hq hk
    rw [putI_ne (by omega)]; exact p.1 q k2 hq hk
  · rw [putI_ne (by omega)]; exact p.2 k2 hk
theorem PcK.put {h : Hp} {b : Nat} {x : Tx} {F : LT} {i k : Nat} {v : Int} (p : PcK h b x F i k) (e : v = F i k) : PcK (putI h b (fst x i + k) v) b x F i (k + 1) := by
  refine ⟨p.at.1, fun k2 hk => ?_⟩
  by_cases e2 : k2 = k
  · rw [e2, putI_eq, e]
  · exact p.at.2 k2 (by omega)
theorem PcK.same {S : Nat → Nat → Prop} {h h2 : Hp} {b : Nat} {x : Tx} {F : LT} {i k : Nat} (p : PcK h b x F i k) (m : Sm S h h2) (hS : ∀ a k, S a k → a ≠ b) : PcK h2 b x F i k := by
  refine ⟨fun q k2 hq hk => ?_, fun k2 hk => ?_⟩
  · rw [m.2.2 _ _ (fun z => hS _ _ z rfl)]; exact p.1 q k2 hq hk
  · rw [m.2.2 _ _ (fun z => hS _ _ z rfl)]; exact p.2 k2 hk
theorem PcK.ne {h : Hp} {a b j : Nat} {x : Tx} {F : LT} {i k : Nat} {v : Int} (p : PcK h b x F i k) (e : b ≠ a) : PcK (putI h a j v) b x F i k := p.same (Sm.put (S := fun a2 _ => a2 = a) Sm.refl rfl) (fun a2 _ z => by omega)
theorem PcK.next {h : Hp} {b : Nat} {x : Tx} {F : LT} {i : Nat} (p : PcK h b x F i (pcs x i)) : PcK h b x F (i + 1) 0 := by
  refine ⟨fun q k2 hq hk => ?_, fun k2 hk => absurd hk (Nat.not_lt_zero _)⟩
  by_cases e : q = i
  · subst e; exact p.2 k2 hk
  · exact p.1 q k2 (by omega) hk
theorem PcK.nil {h : Hp} {b : Nat} {x : Tx} {F : LT} : PcK h b x F 0 0 := ⟨fun q k2 hq => absurd hq (Nat.not_lt_zero _), fun k2 hk => absurd hk (Nat.not_lt_zero _)⟩
theorem c_pageOfPiece {L : Nat} {h : Hp} {s F i k : Nat} {w : Int} (g : GG L h) (hS : isS s) (hi : i < 60) (hFk : F + k < 1200) (hF : h.2.1 (s + 8) i = (F : Int)) (hv : h.2.1 (s + 11) (F + k) = w) : RN 77 0 [some (.inr (.inr (some (s + 1)))), some (.inl (i : Int)), some (.inl (k : Int))] [] h 0 0 (fun v h2 => h2 = h ∧ v = some (.inl (w))) := by
  have hm : mrec 77 = some nM77 := rfl
  obtain ⟨G1, G2, G8, G9, G10, G11, G12, G13, K0, K1, K2, K3, K4, K5, K6, S28, G21⟩ := g.ly hS
  obtain ⟨Z0, Z14, Z17, Z20, Z21, Z22, Z23, Z24, W0, W1, W2, W3, W4, W5, W6, W7, Y2⟩ := g.st hS
  refine r_aload_n hm rfl (k := ?_)
  refine r_getR (hm := hm) (hf := rfl) (hd := rfl) (hs := (by first | assumption | exact Z0 | exact G1 | exact G8)) (hv := (by first | assumption | exact W0 | exact K1)) (k := ?_)
  refine r_aload_n hm rfl (k := ?_)
  refine r_getR (hm := hm) (hf := rfl) (hd := rfl) (hs := (by first | assumption | exact Z0 | exact G1 | exact G8)) (hv := (by first | assumption | exact W0 | exact K1)) (k := ?_)
  refine r_iload_n hm rfl (k := ?_)
  refine r_iald (hm := hm) (hf := rfl) (hs := (by first | assumption | exact Z0 | exact G1 | exact G8)) (hi := rfl) (hn := (by omega)) (hv := (by first | assumption | exact W0 | exact K1)) (k := ?_)
  refine r_iload_n hm rfl (k := ?_)
  refine r_iadd hm rfl (hr := (by omega)) (k := ?_)
  refine r_iald (hm := hm) (hf := rfl) (hs := (by first | assumption | exact Z0 | exact G1 | exact G8)) (kk := F + k) (hi := by omega) (hn := (by omega)) (hv := (by first | assumption | exact W0 | exact K1)) (k := ?_)
  refine r_ireturn hm rfl rfl (by rfl) (Nat.le_of_ble_eq_true rfl) (Nat.le_of_ble_eq_true rfl) ?_
  exact ⟨rfl, rfl⟩
theorem c_lineOfPiece {L : Nat} {h : Hp} {s F i k : Nat} {w : Int} (g : GG L h) (hS : isS s) (hi : i < 60) (hFk : F + k < 1200) (hF : h.2.1 (s + 8) i = (F : Int)) (hv : h.2.1 (s + 10) (F + k) = w) : RN 85 0 [some (.inr (.inr (some (s + 1)))), some (.inl (i : Int)), some (.inl (k : Int))] [] h 0 0 (fun v h2 => h2 = h ∧ v = some (.inl (w))) := by
  have hm : mrec 85 = some nM85 := rfl
  obtain ⟨G1, G2, G8, G9, G10, G11, G12, G13, K0, K1, K2, K3, K4, K5, K6, S28, G21⟩ := g.ly hS
  obtain ⟨Z0, Z14, Z17, Z20, Z21, Z22, Z23, Z24, W0, W1, W2, W3, W4, W5, W6, W7, Y2⟩ := g.st hS
  refine r_aload_n hm rfl (k := ?_)
  refine r_getR (hm := hm) (hf := rfl) (hd := rfl) (hs := (by first | assumption | exact Z0 | exact G1 | exact G8)) (hv := (by first | assumption | exact W0 | exact K1)) (k := ?_)
  refine r_aload_n hm rfl (k := ?_)
  refine r_getR (hm := hm) (hf := rfl) (hd := rfl) (hs := (by first | assumption | exact Z0 | exact G1 | exact G8)) (hv := (by first | assumption | exact W0 | exact K1)) (k := ?_)
  refine r_iload_n hm rfl (k := ?_)
  refine r_iald (hm := hm) (hf := rfl) (hs := (by first | assumption | exact Z0 | exact G1 | exact G8)) (hi := rfl) (hn := (by omega)) (hv := (by first | assumption | exact W0 | exact K1)) (k := ?_)
  refine r_iload_n hm rfl (k := ?_)
  refine r_iadd hm rfl (hr := (by omega)) (k := ?_)
  refine r_iald (hm := hm) (hf := rfl) (hs := (by first | assumption | exact Z0 | exact G1 | exact G8)) (kk := F + k) (hi := by omega) (hn := (by omega)) (hv := (by first | assumption | exact W0 | exact K1)) (k := ?_)
  refine r_ireturn hm rfl rfl (by rfl) (Nat.le_of_ble_eq_true rfl) (Nat.le_of_ble_eq_true rfl) ?_
  exact ⟨rfl, rfl⟩
theorem c_lettersOf {L : Nat} {h : Hp} {s F i k : Nat} {w : Int} (g : GG L h) (hS : isS s) (hi : i < 60) (hFk : F + k < 1200) (hF : h.2.1 (s + 8) i = (F : Int)) (hv : h.2.1 (s + 21) (F + k) = w) : RN 84 0 [some (.inr (.inr (some (s)))), some (.inl (i : Int)), some (.inl (k : Int))] [] h 0 0 (fun v h2 => h2 = h ∧ v = some (.inl (w))) := by
  have hm : mrec 84 = some nM84 := rfl
  obtain ⟨G1, G2, G8, G9, G10, G11, G12, G13, K0, K1, K2, K3, K4, K5, K6, S28, G21⟩ := g.ly hS
  obtain ⟨Z0, Z14, Z17, Z20, Z21, Z22, Z23, Z24, W0, W1, W2, W3, W4, W5, W6, W7, Y2⟩ := g.st hS
  refine r_aload_n hm rfl (k := ?_)
  refine r_getR (hm := hm) (hf := rfl) (hd := rfl) (hs := (by first | assumption | exact Z0 | exact G1 | exact G8)) (hv := (by first | assumption | exact W0 | exact K1)) (k := ?_)
  refine r_aload_n hm rfl (k := ?_)
  refine r_getR (hm := hm) (hf := rfl) (hd := rfl) (hs := (by first | assumption | exact Z0 | exact G1 | exact G8)) (hv := (by first | assumption | exact W0 | exact K1)) (k := ?_)
  refine r_getR (hm := hm) (hf := rfl) (hd := rfl) (hs := (by first | assumption | exact Z0 | exact G1 | exact G8)) (hv := (by first | assumption | exact W0 | exact K1)) (k := ?_)
  refine r_iload_n hm rfl (k := ?_)
  refine r_iald (hm := hm) (hf := rfl) (hs := (by first | assumption | exact Z0 | exact G1 | exact G8)) (hi := rfl) (hn := (by omega)) (hv := (by first | assumption | exact W0 | exact K1)) (k := ?_)
  refine r_iload_n hm rfl (k := ?_)
  refine r_iadd hm rfl (hr := (by omega)) (k := ?_)
  refine r_iald (hm := hm) (hf := rfl) (hs := (by first | assumption | exact Z0 | exact G1 | exact G8)) (kk := F + k) (hi := by omega) (hn := (by omega)) (hv := (by first | assumption | exact W0 | exact K1)) (k := ?_)
  refine r_ireturn hm rfl rfl (by rfl) (Nat.le_of_ble_eq_true rfl) (Nat.le_of_ble_eq_true rfl) ?_
  exact ⟨rfl, rfl⟩
theorem c_noteCountOf {L : Nat} {h : Hp} {s F i k : Nat} {w : Int} (g : GG L h) (hS : isS s) (hi : i < 60) (hFk : F + k < 1200) (hF : h.2.1 (s + 8) i = (F : Int)) (hv : h.2.1 (s + 23) (F + k) = w) : RN 86 0 [some (.inr (.inr (some (s)))), some (.inl (i : Int)), some (.inl (k : Int))] [] h 0 0 (fun v h2 => h2 = h ∧ v = some (.inl (w))) := by
  have hm : mrec 86 = some nM86 := rfl
  obtain ⟨G1, G2, G8, G9, G10, G11, G12, G13, K0, K1, K2, K3, K4, K5, K6, S28, G21⟩ := g.ly hS
  obtain ⟨Z0, Z14, Z17, Z20, Z21, Z22, Z23, Z24, W0, W1, W2, W3, W4, W5, W6, W7, Y2⟩ := g.st hS
  refine r_aload_n hm rfl (k := ?_)
  refine r_getR (hm := hm) (hf := rfl) (hd := rfl) (hs := (by first | assumption | exact Z0 | exact G1 | exact G8)) (hv := (by first | assumption | exact W0 | exact K1)) (k := ?_)
  refine r_aload_n hm rfl (k := ?_)
  refine r_getR (hm := hm) (hf := rfl) (hd := rfl) (hs := (by first | assumption | exact Z0 | exact G1 | exact G8)) (hv := (by first | assumption | exact W0 | exact K1)) (k := ?_)
  refine r_getR (hm := hm) (hf := rfl) (hd := rfl) (hs := (by first | assumption | exact Z0 | exact G1 | exact G8)) (hv := (by first | assumption | exact W0 | exact K1)) (k := ?_)
  refine r_iload_n hm rfl (k := ?_)
  refine r_iald (hm := hm) (hf := rfl) (hs := (by first | assumption | exact Z0 | exact G1 | exact G8)) (hi := rfl) (hn := (by omega)) (hv := (by first | assumption | exact W0 | exact K1)) (k := ?_)
  refine r_iload_n hm rfl (k := ?_)
  refine r_iadd hm rfl (hr := (by omega)) (k := ?_)
  refine r_iald (hm := hm) (hf := rfl) (hs := (by first | assumption | exact Z0 | exact G1 | exact G8)) (kk := F + k) (hi := by omega) (hn := (by omega)) (hv := (by first | assumption | exact W0 | exact K1)) (k := ?_)
  refine r_ireturn hm rfl rfl (by rfl) (Nat.le_of_ble_eq_true rfl) (Nat.le_of_ble_eq_true rfl) ?_
  exact ⟨rfl, rfl⟩
theorem c_numberPieces {L : Nat} {h : Hp} {s t : Nat} {x : Tx} (g : GG L h) (hS : isS s) (ht : isT t) (hR : RepC h t x) (hok : okTx x) (hT8 : h.2.2.1 s 8 = some t) : RN 56 0 [some (.inr (.inr (some (s + 1)))), some (.inr (.inr (some (t)))), none, none] [] h 0 0 (fun v h2 => Sm (fun a _ => a = s + 8) h h2 ∧ (∀ q, q < x.1 → h2.2.1 (s + 8) q = (fst x q : Int)) ∧ v = some (.inl (fst x x.1 : Int))) := by
  have hm : mrec 56 = some nM56 := rfl
  have n60 := hok.1
  refine r_iconst hm rfl (k := ?_)
  refine r_istore_n hm rfl (k := ?_)
  refine r_iconst hm rfl (k := ?_)
  refine r_istore_n hm rfl (k := ?_)
  suffices LP : ∀ (d i : Nat) (h1 : Hp), i + d = x.1 → Sm (fun a _ => a = s + 8) h h1 → (∀ q, q < i → h1.2.1 (s + 8) q = (fst x q : Int)) → RN 56 4 [some (.inr (.inr (some (s + 1)))), some (.inr (.inr (some (t)))), some (.inl (fst x i : Int)), some (.inl (i : Int))] [] h1 0 0 (fun v h2 => Sm (fun a _ => a = s + 8) h h2 ∧ (∀ q, q < x.1 → h2.2.1 (s + 8) q = (fst x q : Int)) ∧ v = some (.inl (fst x x.1 : Int))) from LP x.1 0 _ (by omega) Sm.refl (fun q hq => absurd hq (Nat.not_lt_zero _))
  refine fun d => Nat.strongRecOn d (fun d ih => ?_)
  intro i h1 hd S1 eQ
  have g1 := S1.gg g
  obtain ⟨G1, G2, G8, G9, G10, G11, G12, G13, K0, K1, K2, K3, K4, K5, K6, S28, G21⟩ := g1.ly hS
  obtain ⟨Z0, Z14, Z17, Z20, Z21, Z22, Z23, Z24, W0, W1, W2, W3, W4, W5, W6, W7, Y2⟩ := g1.st hS
  obtain ⟨T1, T2, T3, T4, T5, T6, T7⟩ := g1.tx ht
  have hR1 := S1.repC (fun a k q9 => isS_T hS ht (a := a) (by omega) (by omega)) hR
  obtain ⟨I0, I1, I2, I3, I4, J0, J1, J2, F0, F1, F2, F3, F4, P0, P1, P2⟩ := hR1.use g1 ht
  obtain ⟨R1, R2, R3, R4, R5, R6, R7⟩ := id hR1
  have eit := S1.itm t
  have w8 : h.2.2.1 s 8 = some t := hT8
  have W8 := (congrFun (congrFun (congrArg (fun z => z.1) S1.2.1) s) 8).trans w8
  simp only [S1.itm] at I0 I1 I2 I3 I4 J0 J1 J2 F0 F1 F2 F3 F4 P0 P1 P2
  have hf := fst_le hok i (by omega)
  refine r_iload_n hm rfl (k := ?_)
  refine r_aload_n hm rfl (k := ?_)
  refine r_getI (hm := hm) (hf := rfl) (hd := rfl) (hs := (by first | assumption | exact Z0 | exact Z14 | exact Z17 | exact Z20 | exact Z21 | exact Z22 | exact Z23 | exact Z24 | exact G1 | exact G8 | exact T1 | exact T2 | exact I1 _ (by omega) | exact I2 _ (by omega) | exact I3 _ (by omega) | exact I4 _ (by omega))) (hv := (by first | exact putI_eq | exact (putI_ne (by omega)).trans (by first | first | assumption | exact W8 | exact W0 | exact W1 | exact W2 | exact W4 | exact W5 | exact W6 | exact W7 | exact K0 | exact K1 | exact I0 _ (by omega) | exact J0 _ (by omega) | exact J1 _ (by omega) | exact J2 _ (by omega) | exact F4 _ (by omega) | exact P0 _ _ (by omega) (by omega) | exact P1 _ _ (by omega) (by omega) | exact P2 _ _ (by omega) (by omega)) | first | assumption | exact W8 | exact W0 | exact W1 | exact W2 | exact W4 | exact W5 | exact W6 | exact W7 | exact K0 | exact K1 | exact I0 _ (by omega) | exact J0 _ (by omega) | exact J1 _ (by omega) | exact J2 _ (by omega) | exact F4 _ (by omega) | exact P0 _ _ (by omega) (by omega) | exact P1 _ _ (by omega) (by omega) | exact P2 _ _ (by omega) (by omega))) (k := ?_)
  refine r_icmp_ge (t := 37) hm rfl rfl (fun c9 => ?_) (fun c9 => ?_)
  · refine r_iload_n hm rfl (k := ?_)
    refine r_ireturn hm rfl rfl (by rfl) (Nat.le_of_ble_eq_true rfl) (Nat.le_of_ble_eq_true rfl) ?_
    have ei : i = x.1 := by omega
    subst ei
    exact ⟨S1, eQ, rfl⟩
  · obtain ⟨ep, ep2⟩ := pcs_eq hok (i := i) (by omega)
    have hIt := itm_S hS ht hR (i := i) (by omega)
    refine r_aload_n hm rfl (k := ?_)
    refine r_getR (hm := hm) (hf := rfl) (hd := rfl) (hs := (by first | assumption | exact Z0 | exact Z14 | exact Z17 | exact Z20 | exact Z21 | exact Z22 | exact Z23 | exact Z24 | exact G1 | exact G8 | exact T1 | exact T2 | exact I1 _ (by omega) | exact I2 _ (by omega) | exact I3 _ (by omega) | exact I4 _ (by omega))) (hv := (by first | exact putI_eq | exact (putI_ne (by omega)).trans (by first | first | assumption | exact W8 | exact W0 | exact W1 | exact W2 | exact W4 | exact W5 | exact W6 | exact W7 | exact K0 | exact K1 | exact I0 _ (by omega) | exact J0 _ (by omega) | exact J1 _ (by omega) | exact J2 _ (by omega) | exact F4 _ (by omega) | exact P0 _ _ (by omega) (by omega) | exact P1 _ _ (by omega) (by omega) | exact P2 _ _ (by omega) (by omega)) | first | assumption | exact W8 | exact W0 | exact W1 | exact W2 | exact W4 | exact W5 | exact W6 | exact W7 | exact K0 | exact K1 | exact I0 _ (by omega) | exact J0 _ (by omega) | exact J1 _ (by omega) | exact J2 _ (by omega) | exact F4 _ (by omega) | exact P0 _ _ (by omega) (by omega) | exact P1 _ _ (by omega) (by omega) | exact P2 _ _ (by omega) (by omega))) (k := ?_)
    refine r_iload_n hm rfl (k := ?_)
    refine r_iload_n hm rfl (k := ?_)
    refine r_iast (hm := hm) (hf := rfl) (h28 := (by omega)) (hs := (by first | assumption | exact Z0 | exact Z14 | exact Z17 | exact Z20 | exact Z21 | exact Z22 | exact Z23 | exact Z24 | exact G1 | exact G8 | exact T1 | exact T2 | exact I1 _ (by omega) | exact I2 _ (by omega) | exact I3 _ (by omega) | exact I4 _ (by omega))) (hi := rfl) (hn := (by omega)) (k := ?_)
    refine r_iload_n hm rfl (k := ?_)
    refine r_aload_n hm rfl (k := ?_)
    refine r_getR (hm := hm) (hf := rfl) (hd := rfl) (hs := (by first | assumption | exact Z0 | exact Z14 | exact Z17 | exact Z20 | exact Z21 | exact Z22 | exact Z23 | exact Z24 | exact G1 | exact G8 | exact T1 | exact T2 | exact I1 _ (by omega) | exact I2 _ (by omega) | exact I3 _ (by omega) | exact I4 _ (by omega))) (hv := (by first | exact putI_eq | exact (putI_ne (by omega)).trans (by first | first | assumption | exact W8 | exact W0 | exact W1 | exact W2 | exact W4 | exact W5 | exact W6 | exact W7 | exact K0 | exact K1 | exact I0 _ (by omega) | exact J0 _ (by omega) | exact J1 _ (by omega) | exact J2 _ (by omega) | exact F4 _ (by omega) | exact P0 _ _ (by omega) (by omega) | exact P1 _ _ (by omega) (by omega) | exact P2 _ _ (by omega) (by omega)) | first | assumption | exact W8 | exact W0 | exact W1 | exact W2 | exact W4 | exact W5 | exact W6 | exact W7 | exact K0 | exact K1 | exact I0 _ (by omega) | exact J0 _ (by omega) | exact J1 _ (by omega) | exact J2 _ (by omega) | exact F4 _ (by omega) | exact P0 _ _ (by omega) (by omega) | exact P1 _ _ (by omega) (by omega) | exact P2 _ _ (by omega) (by omega))) (k := ?_)
    refine r_iload_n hm rfl (k := ?_)
    refine r_aald (hm := hm) (hf := rfl) (hs := (by first | assumption | exact Z0 | exact Z14 | exact Z17 | exact Z20 | exact Z21 | exact Z22 | exact Z23 | exact Z24 | exact G1 | exact G8 | exact T1 | exact T2 | exact I1 _ (by omega) | exact I2 _ (by omega) | exact I3 _ (by omega) | exact I4 _ (by omega))) (hkd := by decide) (hi := rfl) (hn := (by omega)) (hv := (by first | exact putI_eq | exact (putI_ne (by omega)).trans (by first | first | assumption | exact W8 | exact W0 | exact W1 | exact W2 | exact W4 | exact W5 | exact W6 | exact W7 | exact K0 | exact K1 | exact I0 _ (by omega) | exact J0 _ (by omega) | exact J1 _ (by omega) | exact J2 _ (by omega) | exact F4 _ (by omega) | exact P0 _ _ (by omega) (by omega) | exact P1 _ _ (by omega) (by omega) | exact P2 _ _ (by omega) (by omega)) | first | assumption | exact W8 | exact W0 | exact W1 | exact W2 | exact W4 | exact W5 | exact W6 | exact W7 | exact K0 | exact K1 | exact I0 _ (by omega) | exact J0 _ (by omega) | exact J1 _ (by omega) | exact J2 _ (by omega) | exact F4 _ (by omega) | exact P0 _ _ (by omega) (by omega) | exact P1 _ _ (by omega) (by omega) | exact P2 _ _ (by omega) (by omega))) (k := ?_)
    refine r_getI (hm := hm) (hf := rfl) (hd := rfl) (hs := (by first | assumption | exact Z0 | exact Z14 | exact Z17 | exact Z20 | exact Z21 | exact Z22 | exact Z23 | exact Z24 | exact G1 | exact G8 | exact T1 | exact T2 | exact I1 _ (by omega) | exact I2 _ (by omega) | exact I3 _ (by omega) | exact I4 _ (by omega))) (hv := (by first | exact putI_eq | exact (putI_ne (by omega)).trans (by first | first | assumption | exact W8 | exact W0 | exact W1 | exact W2 | exact W4 | exact W5 | exact W6 | exact W7 | exact K0 | exact K1 | exact I0 _ (by omega) | exact J0 _ (by omega) | exact J1 _ (by omega) | exact J2 _ (by omega) | exact F4 _ (by omega) | exact P0 _ _ (by omega) (by omega) | exact P1 _ _ (by omega) (by omega) | exact P2 _ _ (by omega) (by omega)) | first | assumption | exact W8 | exact W0 | exact W1 | exact W2 | exact W4 | exact W5 | exact W6 | exact W7 | exact K0 | exact K1 | exact I0 _ (by omega) | exact J0 _ (by omega) | exact J1 _ (by omega) | exact J2 _ (by omega) | exact F4 _ (by omega) | exact P0 _ _ (by omega) (by omega) | exact P1 _ _ (by omega) (by omega) | exact P2 _ _ (by omega) (by omega))) (k := ?_)
    refine r_iadd hm rfl (hr := (by omega)) (k := ?_)
    refine r_istore_n hm rfl (k := ?_)
    refine r_iinc hm rfl (hr := (by omega)) (k := ?_)
    refine r_goto (t := 4) hm rfl (k := ?_)
    have b9 := ih (d - 1) (by omega) (i + 1) _ (by omega) (Sm.put S1 rfl) (fun q hq => if e : q = i then (by subst e; exact putI_eq) else (by rw [putI_ne (by omega)]; exact eQ q (by omega)))
    rw [show ((fst x (i + 1) : Nat) : Int) = (fst x i : Int) + x.2.1 4 i by rw [← ep]; rfl] at b9
    exact b9
theorem c_lettersAtFirst {L : Nat} {h : Hp} {s t : Nat} {x : Tx} (g : GG L h) (hS : isS s) (ht : isT t) (hR : RepC h t x) (hok : okTx x) (hT8 : h.2.2.1 s 8 = some t) {i k : Nat} (hi : i < x.1) (hk : (k : Int) < x.2.1 4 i) (hk2 : k < 20) : RN 57 0 [some (.inr (.inr (some (s)))), some (.inr (.inr (some (itm h t i)))), some (.inl (k : Int))] [] h 0 0 (fun v h2 => h2 = h ∧ v = some (.inl (lt0 x i k))) := by
  have hm : mrec 57 = some nM57 := rfl
  have S1 : Sm (fun _ _ => False) h h := Sm.refl
  have g1 := S1.gg g
  obtain ⟨G1, G2, G8, G9, G10, G11, G12, G13, K0, K1, K2, K3, K4, K5, K6, S28, G21⟩ := g1.ly hS
  obtain ⟨Z0, Z14, Z17, Z20, Z21, Z22, Z23, Z24, W0, W1, W2, W3, W4, W5, W6, W7, Y2⟩ := g1.st hS
  obtain ⟨T1, T2, T3, T4, T5, T6, T7⟩ := g1.tx ht
  have hR1 := S1.repC (fun a k q9 => q9.elim) hR
  obtain ⟨I0, I1, I2, I3, I4, J0, J1, J2, F0, F1, F2, F3, F4, P0, P1, P2⟩ := hR1.use g1 ht
  obtain ⟨R1, R2, R3, R4, R5, R6, R7⟩ := id hR1
  have eit := S1.itm t
  have w8 : h.2.2.1 s 8 = some t := hT8
  have W8 := (congrFun (congrFun (congrArg (fun z => z.1) S1.2.1) s) 8).trans w8
  refine r_aload_n hm rfl (k := ?_)
  refine r_getR (hm := hm) (hf := rfl) (hd := rfl) (hs := (by first | assumption | exact Z0 | exact Z14 | exact Z17 | exact Z20 | exact Z21 | exact Z22 | exact Z23 | exact Z24 | exact G1 | exact G8 | exact T1 | exact T2 | exact I1 _ (by omega) | exact I2 _ (by omega) | exact I3 _ (by omega) | exact I4 _ (by omega))) (hv := (by first | assumption | exact W8 | exact W0 | exact W1 | exact W2 | exact W4 | exact W5 | exact W6 | exact W7 | exact K0 | exact K1 | exact I0 _ (by omega) | exact J0 _ (by omega) | exact J1 _ (by omega) | exact J2 _ (by omega) | exact F4 _ (by omega) | exact P0 _ _ (by omega) (by omega) | exact P1 _ _ (by omega) (by omega) | exact P2 _ _ (by omega) (by omega))) (k := ?_)
  refine r_iload_n hm rfl (k := ?_)
  refine r_iald (hm := hm) (hf := rfl) (hs := (by first | assumption | exact Z0 | exact Z14 | exact Z17 | exact Z20 | exact Z21 | exact Z22 | exact Z23 | exact Z24 | exact G1 | exact G8 | exact T1 | exact T2 | exact I1 _ (by omega) | exact I2 _ (by omega) | exact I3 _ (by omega) | exact I4 _ (by omega))) (hi := rfl) (hn := (by omega)) (hv := (by first | assumption | exact W8 | exact W0 | exact W1 | exact W2 | exact W4 | exact W5 | exact W6 | exact W7 | exact K0 | exact K1 | exact I0 _ (by omega) | exact J0 _ (by omega) | exact J1 _ (by omega) | exact J2 _ (by omega) | exact F4 _ (by omega) | exact P0 _ _ (by omega) (by omega) | exact P1 _ _ (by omega) (by omega) | exact P2 _ _ (by omega) (by omega))) (k := ?_)
  by_cases s6_1 : x.2.2.1 0 i k = 1
  · refine r_lsw hm rfl rfl 32 (by rw [s6_1]; rfl) ?_
    refine r_iconst hm rfl (k := ?_)
    refine r_ireturn hm rfl rfl (by rfl) (Nat.le_of_ble_eq_true rfl) (Nat.le_of_ble_eq_true rfl) ?_
    exact ⟨rfl, by unfold lt0; first | (rw [if_pos (by omega)]; done) | (rw [if_neg (by omega), if_pos (by omega)]; done) | (rw [if_neg (by omega), if_neg (by omega)]; done)⟩
  by_cases s6_2 : x.2.2.1 0 i k = 2
  · refine r_lsw hm rfl rfl 34 (by rw [s6_2]; rfl) ?_
    refine r_iconst hm rfl (k := ?_)
    refine r_ireturn hm rfl rfl (by rfl) (Nat.le_of_ble_eq_true rfl) (Nat.le_of_ble_eq_true rfl) ?_
    exact ⟨rfl, by unfold lt0; first | (rw [if_pos (by omega)]; done) | (rw [if_neg (by omega), if_pos (by omega)]; done) | (rw [if_neg (by omega), if_neg (by omega)]; done)⟩
  refine r_lsw hm rfl rfl 36 (by simp only [Op.lookupswitch.offset]; first | (simp [*]; done) | (rw [if_neg (by omega), if_neg (by omega)]; rfl)) ?_
  refine r_aload_n hm rfl (k := ?_)
  refine r_getR (hm := hm) (hf := rfl) (hd := rfl) (hs := (by first | assumption | exact Z0 | exact Z14 | exact Z17 | exact Z20 | exact Z21 | exact Z22 | exact Z23 | exact Z24 | exact G1 | exact G8 | exact T1 | exact T2 | exact I1 _ (by omega) | exact I2 _ (by omega) | exact I3 _ (by omega) | exact I4 _ (by omega))) (hv := (by first | assumption | exact W8 | exact W0 | exact W1 | exact W2 | exact W4 | exact W5 | exact W6 | exact W7 | exact K0 | exact K1 | exact I0 _ (by omega) | exact J0 _ (by omega) | exact J1 _ (by omega) | exact J2 _ (by omega) | exact F4 _ (by omega) | exact P0 _ _ (by omega) (by omega) | exact P1 _ _ (by omega) (by omega) | exact P2 _ _ (by omega) (by omega))) (k := ?_)
  refine r_iload_n hm rfl (k := ?_)
  refine r_iald (hm := hm) (hf := rfl) (hs := (by first | assumption | exact Z0 | exact Z14 | exact Z17 | exact Z20 | exact Z21 | exact Z22 | exact Z23 | exact Z24 | exact G1 | exact G8 | exact T1 | exact T2 | exact I1 _ (by omega) | exact I2 _ (by omega) | exact I3 _ (by omega) | exact I4 _ (by omega))) (hi := rfl) (hn := (by omega)) (hv := (by first | assumption | exact W8 | exact W0 | exact W1 | exact W2 | exact W4 | exact W5 | exact W6 | exact W7 | exact K0 | exact K1 | exact I0 _ (by omega) | exact J0 _ (by omega) | exact J1 _ (by omega) | exact J2 _ (by omega) | exact F4 _ (by omega) | exact P0 _ _ (by omega) (by omega) | exact P1 _ _ (by omega) (by omega) | exact P2 _ _ (by omega) (by omega))) (k := ?_)
  refine r_ireturn hm rfl rfl (by rfl) (Nat.le_of_ble_eq_true rfl) (Nat.le_of_ble_eq_true rfl) ?_
  exact ⟨rfl, by unfold lt0; first | (rw [if_pos (by omega)]; done) | (rw [if_neg (by omega), if_pos (by omega)]; done) | (rw [if_neg (by omega), if_neg (by omega)]; done)⟩
set_option maxRecDepth 8000 in
theorem c_stBegin {L : Nat} {h : Hp} {s t : Nat} {x : Tx} (g : GG L h) (hS : isS s) (ht : isT t) (hR : RepC h t x) (hok : okTx x) (hT8 : h.2.2.1 s 8 = some t) : RN 55 0 [some (.inr (.inr (some (s)))), none, none, none, none] [] h 0 0 (fun v h2 => Sm (fun a k => (a = s ∧ k = 12) ∨ a = s + 8 ∨ a = s + 21 ∨ a = s + 24) h h2 ∧ (∀ q, q < x.1 → h2.2.1 (s + 8) q = (fst x q : Int)) ∧ h2.2.1 s 12 = (fst x x.1 : Int) ∧ PcK h2 (s + 24) x (mnt x) x.1 0 ∧ PcK h2 (s + 21) x (lt0 x) x.1 0 ∧ v = none) := by
  have hm : mrec 55 = some nM55 := rfl
  have n60 := hok.1
  have S1 : Sm (fun a k => (a = s ∧ k = 12) ∨ a = s + 8 ∨ a = s + 21 ∨ a = s + 24) h h := Sm.refl
  have g1 := S1.gg g
  obtain ⟨G1, G2, G8, G9, G10, G11, G12, G13, K0, K1, K2, K3, K4, K5, K6, S28, G21⟩ := g1.ly hS
  obtain ⟨Z0, Z14, Z17, Z20, Z21, Z22, Z23, Z24, W0, W1, W2, W3, W4, W5, W6, W7, Y2⟩ := g1.st hS
  obtain ⟨T1, T2, T3, T4, T5, T6, T7⟩ := g1.tx ht
  have hR1 := S1.repC (fun a k q9 => isS_T hS ht (a := a) (by omega) (by omega)) hR
  obtain ⟨I0, I1, I2, I3, I4, J0, J1, J2, F0, F1, F2, F3, F4, P0, P1, P2⟩ := hR1.use g1 ht
  obtain ⟨R1, R2, R3, R4, R5, R6, R7⟩ := id hR1
  have eit := S1.itm t
  have w8 : h.2.2.1 s 8 = some t := hT8
  have W8 := (congrFun (congrFun (congrArg (fun z => z.1) S1.2.1) s) 8).trans w8
  refine r_aload_n hm rfl (k := ?_)
  refine r_aload_n hm rfl (k := ?_)
  refine r_getR (hm := hm) (hf := rfl) (hd := rfl) (hs := (by first | assumption | exact Z0 | exact Z14 | exact Z17 | exact Z20 | exact Z21 | exact Z22 | exact Z23 | exact Z24 | exact G1 | exact G8 | exact T1 | exact T2 | exact I1 _ (by omega) | exact I2 _ (by omega) | exact I3 _ (by omega) | exact I4 _ (by omega))) (hv := (by first | exact putI_eq | exact (putI_ne (by omega)).trans (by first | exact putI_eq | exact (putI_ne (by omega)).trans (by first | first | assumption | exact W8 | exact W0 | exact W1 | exact W2 | exact W4 | exact W5 | exact W6 | exact W7 | exact K0 | exact K1 | exact I0 _ (by omega) | exact J0 _ (by omega) | exact J1 _ (by omega) | exact J2 _ (by omega) | exact F4 _ (by omega) | exact P0 _ _ (by omega) (by omega) | exact P1 _ _ (by omega) (by omega) | exact P2 _ _ (by omega) (by omega) | exact eF _ (by omega)) | first | assumption | exact W8 | exact W0 | exact W1 | exact W2 | exact W4 | exact W5 | exact W6 | exact W7 | exact K0 | exact K1 | exact I0 _ (by omega) | exact J0 _ (by omega) | exact J1 _ (by omega) | exact J2 _ (by omega) | exact F4 _ (by omega) | exact P0 _ _ (by omega) (by omega) | exact P1 _ _ (by omega) (by omega) | exact P2 _ _ (by omega) (by omega) | exact eF _ (by omega)) | first | assumption | exact W8 | exact W0 | exact W1 | exact W2 | exact W4 | exact W5 | exact W6 | exact W7 | exact K0 | exact K1 | exact I0 _ (by omega) | exact J0 _ (by omega) | exact J1 _ (by omega) | exact J2 _ (by omega) | exact F4 _ (by omega) | exact P0 _ _ (by omega) (by omega) | exact P1 _ _ (by omega) (by omega) | exact P2 _ _ (by omega) (by omega) | exact eF _ (by omega))) (k := ?_)
  refine r_aload_n hm rfl (k := ?_)
  refine r_getR (hm := hm) (hf := rfl) (hd := rfl) (hs := (by first | assumption | exact Z0 | exact Z14 | exact Z17 | exact Z20 | exact Z21 | exact Z22 | exact Z23 | exact Z24 | exact G1 | exact G8 | exact T1 | exact T2 | exact I1 _ (by omega) | exact I2 _ (by omega) | exact I3 _ (by omega) | exact I4 _ (by omega))) (hv := (by first | exact putI_eq | exact (putI_ne (by omega)).trans (by first | exact putI_eq | exact (putI_ne (by omega)).trans (by first | first | assumption | exact W8 | exact W0 | exact W1 | exact W2 | exact W4 | exact W5 | exact W6 | exact W7 | exact K0 | exact K1 | exact I0 _ (by omega) | exact J0 _ (by omega) | exact J1 _ (by omega) | exact J2 _ (by omega) | exact F4 _ (by omega) | exact P0 _ _ (by omega) (by omega) | exact P1 _ _ (by omega) (by omega) | exact P2 _ _ (by omega) (by omega) | exact eF _ (by omega)) | first | assumption | exact W8 | exact W0 | exact W1 | exact W2 | exact W4 | exact W5 | exact W6 | exact W7 | exact K0 | exact K1 | exact I0 _ (by omega) | exact J0 _ (by omega) | exact J1 _ (by omega) | exact J2 _ (by omega) | exact F4 _ (by omega) | exact P0 _ _ (by omega) (by omega) | exact P1 _ _ (by omega) (by omega) | exact P2 _ _ (by omega) (by omega) | exact eF _ (by omega)) | first | assumption | exact W8 | exact W0 | exact W1 | exact W2 | exact W4 | exact W5 | exact W6 | exact W7 | exact K0 | exact K1 | exact I0 _ (by omega) | exact J0 _ (by omega) | exact J1 _ (by omega) | exact J2 _ (by omega) | exact F4 _ (by omega) | exact P0 _ _ (by omega) (by omega) | exact P1 _ _ (by omega) (by omega) | exact P2 _ _ (by omega) (by omega) | exact eF _ (by omega))) (k := ?_)
  refine r_callv (j2 := 56) hm rfl rfl rfl rfl rfl rfl (by first | assumption | exact Z0 | exact Z14 | exact Z17 | exact Z20 | exact Z21 | exact Z22 | exact Z23 | exact Z24 | exact G1 | exact G8 | exact T1 | exact T2 | exact I1 _ (by omega) | exact I2 _ (by omega) | exact I3 _ (by omega) | exact I4 _ (by omega)) (Nat.le_of_ble_eq_true rfl) (Nat.le_of_ble_eq_true rfl) rfl ⟨Nat.le_of_ble_eq_true rfl, Nat.le_of_ble_eq_true rfl, Nat.le_of_ble_eq_true rfl, Nat.le_of_ble_eq_true rfl, Nat.le_of_ble_eq_true rfl⟩ rfl (c_numberPieces g hS ht hR hok hT8) (fun v9 hA p9 => ?_)
  obtain ⟨SA, eA, e1⟩ := p9
  subst e1
  have g1 := SA.gg g
  obtain ⟨G1, G2, G8, G9, G10, G11, G12, G13, K0, K1, K2, K3, K4, K5, K6, S28, G21⟩ := g1.ly hS
  obtain ⟨Z0, Z14, Z17, Z20, Z21, Z22, Z23, Z24, W0, W1, W2, W3, W4, W5, W6, W7, Y2⟩ := g1.st hS
  obtain ⟨T1, T2, T3, T4, T5, T6, T7⟩ := g1.tx ht
  have hR1 := SA.repC (fun a k q9 => isS_T hS ht (a := a) (by omega) (by omega)) hR
  obtain ⟨I0, I1, I2, I3, I4, J0, J1, J2, F0, F1, F2, F3, F4, P0, P1, P2⟩ := hR1.use g1 ht
  obtain ⟨R1, R2, R3, R4, R5, R6, R7⟩ := id hR1
  have eit := SA.itm t
  have w8 : h.2.2.1 s 8 = some t := hT8
  have W8 := (congrFun (congrFun (congrArg (fun z => z.1) SA.2.1) s) 8).trans w8
  simp only [SA.itm] at I0 I1 I2 I3 I4 J0 J1 J2 F0 F1 F2 F3 F4 P0 P1 P2
  change RN 55 12 _ _ _ 0 0 _
  dsimp only [Option.toList, List.cons_append, List.nil_append]
  refine r_putI (hm := hm) (hf := rfl) (hd := rfl) (hs := (by first | assumption | exact Z0 | exact Z14 | exact Z17 | exact Z20 | exact Z21 | exact Z22 | exact Z23 | exact Z24 | exact G1 | exact G8 | exact T1 | exact T2 | exact I1 _ (by omega) | exact I2 _ (by omega) | exact I3 _ (by omega) | exact I4 _ (by omega))) (hfin := Or.inl rfl) (hz := fun q9 => absurd q9 (by decide)) (k := ?_)
  refine r_iconst hm rfl (k := ?_)
  refine r_istore_n hm rfl (k := ?_)
  suffices LP : ∀ (d i : Nat) (h1 : Hp) (z2 z3 z4 : Option Vl), i + d = x.1 → Sm (fun a k => (a = s ∧ k = 12) ∨ a = s + 8 ∨ a = s + 21 ∨ a = s + 24) h h1 → (∀ q, q < x.1 → h1.2.1 (s + 8) q = (fst x q : Int)) → h1.2.1 s 12 = (fst x x.1 : Int) → PcK h1 (s + 24) x (mnt x) i 0 → PcK h1 (s + 21) x (lt0 x) i 0 → RN 55 17 [some (.inr (.inr (some (s)))), some (.inl (i : Int)), z2, z3, z4] [] h1 0 0 (fun v h2 => Sm (fun a k => (a = s ∧ k = 12) ∨ a = s + 8 ∨ a = s + 21 ∨ a = s + 24) h h2 ∧ (∀ q, q < x.1 → h2.2.1 (s + 8) q = (fst x q : Int)) ∧ h2.2.1 s 12 = (fst x x.1 : Int) ∧ PcK h2 (s + 24) x (mnt x) x.1 0 ∧ PcK h2 (s + 21) x (lt0 x) x.1 0 ∧ v = none) from LP x.1 0 _ _ _ _ (by omega) (Sm.put (SA.mono (fun a k z => by omega)) (by omega)) (fun q hq => by rw [putI_ne (by omega)]; exact eA q hq) putI_eq PcK.nil PcK.nil
  clear SA eA G1 G2 G8 G9 G10 G11 G12 G13 K0 K1 K2 K3 K4 K5 K6 Z0 Z14 Z17 Z20 Z21 Z22 Z23 Z24 W0 W1 W2 W3 W4 W5 W6 W7 W8
  refine fun d => Nat.strongRecOn d (fun d ih => ?_)
  intro i h1 z2 z3 z4 hd S1 eF e12 pM pL
  have g1 := S1.gg g
  obtain ⟨G1, G2, G8, G9, G10, G11, G12, G13, K0, K1, K2, K3, K4, K5, K6, S28, G21⟩ := g1.ly hS
  obtain ⟨Z0, Z14, Z17, Z20, Z21, Z22, Z23, Z24, W0, W1, W2, W3, W4, W5, W6, W7, Y2⟩ := g1.st hS
  obtain ⟨T1, T2, T3, T4, T5, T6, T7⟩ := g1.tx ht
  have hR1 := S1.repC (fun a k q9 => isS_T hS ht (a := a) (by omega) (by omega)) hR
  obtain ⟨I0, I1, I2, I3, I4, J0, J1, J2, F0, F1, F2, F3, F4, P0, P1, P2⟩ := hR1.use g1 ht
  obtain ⟨R1, R2, R3, R4, R5, R6, R7⟩ := id hR1
  have eit := S1.itm t
  have w8 : h.2.2.1 s 8 = some t := hT8
  have W8 := (congrFun (congrFun (congrArg (fun z => z.1) S1.2.1) s) 8).trans w8
  simp only [S1.itm] at I0 I1 I2 I3 I4 J0 J1 J2 F0 F1 F2 F3 F4 P0 P1 P2
  refine r_iload_n hm rfl (k := ?_)
  refine r_aload_n hm rfl (k := ?_)
  refine r_getR (hm := hm) (hf := rfl) (hd := rfl) (hs := (by first | assumption | exact Z0 | exact Z14 | exact Z17 | exact Z20 | exact Z21 | exact Z22 | exact Z23 | exact Z24 | exact G1 | exact G8 | exact T1 | exact T2 | exact I1 _ (by omega) | exact I2 _ (by omega) | exact I3 _ (by omega) | exact I4 _ (by omega))) (hv := (by first | exact putI_eq | exact (putI_ne (by omega)).trans (by first | exact putI_eq | exact (putI_ne (by omega)).trans (by first | first | assumption | exact W8 | exact W0 | exact W1 | exact W2 | exact W4 | exact W5 | exact W6 | exact W7 | exact K0 | exact K1 | exact I0 _ (by omega) | exact J0 _ (by omega) | exact J1 _ (by omega) | exact J2 _ (by omega) | exact F4 _ (by omega) | exact P0 _ _ (by omega) (by omega) | exact P1 _ _ (by omega) (by omega) | exact P2 _ _ (by omega) (by omega) | exact eF _ (by omega)) | first | assumption | exact W8 | exact W0 | exact W1 | exact W2 | exact W4 | exact W5 | exact W6 | exact W7 | exact K0 | exact K1 | exact I0 _ (by omega) | exact J0 _ (by omega) | exact J1 _ (by omega) | exact J2 _ (by omega) | exact F4 _ (by omega) | exact P0 _ _ (by omega) (by omega) | exact P1 _ _ (by omega) (by omega) | exact P2 _ _ (by omega) (by omega) | exact eF _ (by omega)) | first | assumption | exact W8 | exact W0 | exact W1 | exact W2 | exact W4 | exact W5 | exact W6 | exact W7 | exact K0 | exact K1 | exact I0 _ (by omega) | exact J0 _ (by omega) | exact J1 _ (by omega) | exact J2 _ (by omega) | exact F4 _ (by omega) | exact P0 _ _ (by omega) (by omega) | exact P1 _ _ (by omega) (by omega) | exact P2 _ _ (by omega) (by omega) | exact eF _ (by omega))) (k := ?_)
  refine r_getI (hm := hm) (hf := rfl) (hd := rfl) (hs := (by first | assumption | exact Z0 | exact Z14 | exact Z17 | exact Z20 | exact Z21 | exact Z22 | exact Z23 | exact Z24 | exact G1 | exact G8 | exact T1 | exact T2 | exact I1 _ (by omega) | exact I2 _ (by omega) | exact I3 _ (by omega) | exact I4 _ (by omega))) (hv := (by first | exact putI_eq | exact (putI_ne (by omega)).trans (by first | exact putI_eq | exact (putI_ne (by omega)).trans (by first | first | assumption | exact W8 | exact W0 | exact W1 | exact W2 | exact W4 | exact W5 | exact W6 | exact W7 | exact K0 | exact K1 | exact I0 _ (by omega) | exact J0 _ (by omega) | exact J1 _ (by omega) | exact J2 _ (by omega) | exact F4 _ (by omega) | exact P0 _ _ (by omega) (by omega) | exact P1 _ _ (by omega) (by omega) | exact P2 _ _ (by omega) (by omega) | exact eF _ (by omega)) | first | assumption | exact W8 | exact W0 | exact W1 | exact W2 | exact W4 | exact W5 | exact W6 | exact W7 | exact K0 | exact K1 | exact I0 _ (by omega) | exact J0 _ (by omega) | exact J1 _ (by omega) | exact J2 _ (by omega) | exact F4 _ (by omega) | exact P0 _ _ (by omega) (by omega) | exact P1 _ _ (by omega) (by omega) | exact P2 _ _ (by omega) (by omega) | exact eF _ (by omega)) | first | assumption | exact W8 | exact W0 | exact W1 | exact W2 | exact W4 | exact W5 | exact W6 | exact W7 | exact K0 | exact K1 | exact I0 _ (by omega) | exact J0 _ (by omega) | exact J1 _ (by omega) | exact J2 _ (by omega) | exact F4 _ (by omega) | exact P0 _ _ (by omega) (by omega) | exact P1 _ _ (by omega) (by omega) | exact P2 _ _ (by omega) (by omega) | exact eF _ (by omega))) (k := ?_)
  refine r_icmp_ge (t := 102) hm rfl rfl (fun c25 => ?_) (fun c25 => ?_)
  · refine r_return hm rfl rfl (Nat.le_of_ble_eq_true rfl) (Nat.le_of_ble_eq_true rfl) ?_
    have ei : i = x.1 := by omega
    subst ei
    exact ⟨S1, eF, e12, pM, pL, rfl⟩
  · have hi2 : i < x.1 := by omega
    obtain ⟨ep, ep2⟩ := pcs_eq hok hi2
    have hf := fst_le hok (i + 1) (by omega)
    have hf2 : fst x (i + 1) = fst x i + pcs x i := rfl
    have hIt := itm_S hS ht hR (i := i) (by omega)
    refine r_aload_n hm rfl (k := ?_)
    refine r_getR (hm := hm) (hf := rfl) (hd := rfl) (hs := (by first | assumption | exact Z0 | exact Z14 | exact Z17 | exact Z20 | exact Z21 | exact Z22 | exact Z23 | exact Z24 | exact G1 | exact G8 | exact T1 | exact T2 | exact I1 _ (by omega) | exact I2 _ (by omega) | exact I3 _ (by omega) | exact I4 _ (by omega))) (hv := (by first | exact putI_eq | exact (putI_ne (by omega)).trans (by first | exact putI_eq | exact (putI_ne (by omega)).trans (by first | first | assumption | exact W8 | exact W0 | exact W1 | exact W2 | exact W4 | exact W5 | exact W6 | exact W7 | exact K0 | exact K1 | exact I0 _ (by omega) | exact J0 _ (by omega) | exact J1 _ (by omega) | exact J2 _ (by omega) | exact F4 _ (by omega) | exact P0 _ _ (by omega) (by omega) | exact P1 _ _ (by omega) (by omega) | exact P2 _ _ (by omega) (by omega) | exact eF _ (by omega)) | first | assumption | exact W8 | exact W0 | exact W1 | exact W2 | exact W4 | exact W5 | exact W6 | exact W7 | exact K0 | exact K1 | exact I0 _ (by omega) | exact J0 _ (by omega) | exact J1 _ (by omega) | exact J2 _ (by omega) | exact F4 _ (by omega) | exact P0 _ _ (by omega) (by omega) | exact P1 _ _ (by omega) (by omega) | exact P2 _ _ (by omega) (by omega) | exact eF _ (by omega)) | first | assumption | exact W8 | exact W0 | exact W1 | exact W2 | exact W4 | exact W5 | exact W6 | exact W7 | exact K0 | exact K1 | exact I0 _ (by omega) | exact J0 _ (by omega) | exact J1 _ (by omega) | exact J2 _ (by omega) | exact F4 _ (by omega) | exact P0 _ _ (by omega) (by omega) | exact P1 _ _ (by omega) (by omega) | exact P2 _ _ (by omega) (by omega) | exact eF _ (by omega))) (k := ?_)
    refine r_getR (hm := hm) (hf := rfl) (hd := rfl) (hs := (by first | assumption | exact Z0 | exact Z14 | exact Z17 | exact Z20 | exact Z21 | exact Z22 | exact Z23 | exact Z24 | exact G1 | exact G8 | exact T1 | exact T2 | exact I1 _ (by omega) | exact I2 _ (by omega) | exact I3 _ (by omega) | exact I4 _ (by omega))) (hv := (by first | exact putI_eq | exact (putI_ne (by omega)).trans (by first | exact putI_eq | exact (putI_ne (by omega)).trans (by first | first | assumption | exact W8 | exact W0 | exact W1 | exact W2 | exact W4 | exact W5 | exact W6 | exact W7 | exact K0 | exact K1 | exact I0 _ (by omega) | exact J0 _ (by omega) | exact J1 _ (by omega) | exact J2 _ (by omega) | exact F4 _ (by omega) | exact P0 _ _ (by omega) (by omega) | exact P1 _ _ (by omega) (by omega) | exact P2 _ _ (by omega) (by omega) | exact eF _ (by omega)) | first | assumption | exact W8 | exact W0 | exact W1 | exact W2 | exact W4 | exact W5 | exact W6 | exact W7 | exact K0 | exact K1 | exact I0 _ (by omega) | exact J0 _ (by omega) | exact J1 _ (by omega) | exact J2 _ (by omega) | exact F4 _ (by omega) | exact P0 _ _ (by omega) (by omega) | exact P1 _ _ (by omega) (by omega) | exact P2 _ _ (by omega) (by omega) | exact eF _ (by omega)) | first | assumption | exact W8 | exact W0 | exact W1 | exact W2 | exact W4 | exact W5 | exact W6 | exact W7 | exact K0 | exact K1 | exact I0 _ (by omega) | exact J0 _ (by omega) | exact J1 _ (by omega) | exact J2 _ (by omega) | exact F4 _ (by omega) | exact P0 _ _ (by omega) (by omega) | exact P1 _ _ (by omega) (by omega) | exact P2 _ _ (by omega) (by omega) | exact eF _ (by omega))) (k := ?_)
    refine r_iload_n hm rfl (k := ?_)
    refine r_aald (hm := hm) (hf := rfl) (hs := (by first | assumption | exact Z0 | exact Z14 | exact Z17 | exact Z20 | exact Z21 | exact Z22 | exact Z23 | exact Z24 | exact G1 | exact G8 | exact T1 | exact T2 | exact I1 _ (by omega) | exact I2 _ (by omega) | exact I3 _ (by omega) | exact I4 _ (by omega))) (hkd := by decide) (hi := rfl) (hn := (by omega)) (hv := (by first | exact putI_eq | exact (putI_ne (by omega)).trans (by first | exact putI_eq | exact (putI_ne (by omega)).trans (by first | first | assumption | exact W8 | exact W0 | exact W1 | exact W2 | exact W4 | exact W5 | exact W6 | exact W7 | exact K0 | exact K1 | exact I0 _ (by omega) | exact J0 _ (by omega) | exact J1 _ (by omega) | exact J2 _ (by omega) | exact F4 _ (by omega) | exact P0 _ _ (by omega) (by omega) | exact P1 _ _ (by omega) (by omega) | exact P2 _ _ (by omega) (by omega) | exact eF _ (by omega)) | first | assumption | exact W8 | exact W0 | exact W1 | exact W2 | exact W4 | exact W5 | exact W6 | exact W7 | exact K0 | exact K1 | exact I0 _ (by omega) | exact J0 _ (by omega) | exact J1 _ (by omega) | exact J2 _ (by omega) | exact F4 _ (by omega) | exact P0 _ _ (by omega) (by omega) | exact P1 _ _ (by omega) (by omega) | exact P2 _ _ (by omega) (by omega) | exact eF _ (by omega)) | first | assumption | exact W8 | exact W0 | exact W1 | exact W2 | exact W4 | exact W5 | exact W6 | exact W7 | exact K0 | exact K1 | exact I0 _ (by omega) | exact J0 _ (by omega) | exact J1 _ (by omega) | exact J2 _ (by omega) | exact F4 _ (by omega) | exact P0 _ _ (by omega) (by omega) | exact P1 _ _ (by omega) (by omega) | exact P2 _ _ (by omega) (by omega) | exact eF _ (by omega))) (k := ?_)
    refine r_astore_n hm rfl (k := ?_)
    refine r_iconst hm rfl (k := ?_)
    refine r_istore_n hm rfl (k := ?_)
    suffices LP : ∀ (d2 k : Nat) (h1 : Hp) (z4 : Option Vl), k + d2 = pcs x i → Sm (fun a k => (a = s ∧ k = 12) ∨ a = s + 8 ∨ a = s + 21 ∨ a = s + 24) h h1 → (∀ q, q < x.1 → h1.2.1 (s + 8) q = (fst x q : Int)) → h1.2.1 s 12 = (fst x x.1 : Int) → PcK h1 (s + 24) x (mnt x) i k → PcK h1 (s + 21) x (lt0 x) i k → RN 55 40 [some (.inr (.inr (some (s)))), some (.inl (i : Int)), some (.inr (.inr (some (itm h t i)))), some (.inl (k : Int)), z4] [] h1 0 0 (fun v h2 => Sm (fun a k => (a = s ∧ k = 12) ∨ a = s + 8 ∨ a = s + 21 ∨ a = s + 24) h h2 ∧ (∀ q, q < x.1 → h2.2.1 (s + 8) q = (fst x q : Int)) ∧ h2.2.1 s 12 = (fst x x.1 : Int) ∧ PcK h2 (s + 24) x (mnt x) x.1 0 ∧ PcK h2 (s + 21) x (lt0 x) x.1 0 ∧ v = none) from LP (pcs x i) 0 _ _ (by omega) S1 eF e12 pM pL
    refine fun d2 => Nat.strongRecOn d2 (fun d2 ih2 => ?_)
    intro k h1 z4 hd2 S1 eF e12 pM pL
    have g1 := S1.gg g
    obtain ⟨G1, G2, G8, G9, G10, G11, G12, G13, K0, K1, K2, K3, K4, K5, K6, S28, G21⟩ := g1.ly hS
    obtain ⟨Z0, Z14, Z17, Z20, Z21, Z22, Z23, Z24, W0, W1, W2, W3, W4, W5, W6, W7, Y2⟩ := g1.st hS
    obtain ⟨T1, T2, T3, T4, T5, T6, T7⟩ := g1.tx ht
    have hR1 := S1.repC (fun a k q9 => isS_T hS ht (a := a) (by omega) (by omega)) hR
    obtain ⟨I0, I1, I2, I3, I4, J0, J1, J2, F0, F1, F2, F3, F4, P0, P1, P2⟩ := hR1.use g1 ht
    obtain ⟨R1, R2, R3, R4, R5, R6, R7⟩ := id hR1
    have eit := S1.itm t
    have w8 : h.2.2.1 s 8 = some t := hT8
    have W8 := (congrFun (congrFun (congrArg (fun z => z.1) S1.2.1) s) 8).trans w8
    simp only [S1.itm] at I0 I1 I2 I3 I4 J0 J1 J2 F0 F1 F2 F3 F4 P0 P1 P2
    refine r_iload_n hm rfl (k := ?_)
    refine r_aload_n hm rfl (k := ?_)
    refine r_getI (hm := hm) (hf := rfl) (hd := rfl) (hs := (by first | assumption | exact Z0 | exact Z14 | exact Z17 | exact Z20 | exact Z21 | exact Z22 | exact Z23 | exact Z24 | exact G1 | exact G8 | exact T1 | exact T2 | exact I1 _ (by omega) | exact I2 _ (by omega) | exact I3 _ (by omega) | exact I4 _ (by omega))) (hv := (by first | exact putI_eq | exact (putI_ne (by omega)).trans (by first | exact putI_eq | exact (putI_ne (by omega)).trans (by first | first | assumption | exact W8 | exact W0 | exact W1 | exact W2 | exact W4 | exact W5 | exact W6 | exact W7 | exact K0 | exact K1 | exact I0 _ (by omega) | exact J0 _ (by omega) | exact J1 _ (by omega) | exact J2 _ (by omega) | exact F4 _ (by omega) | exact P0 _ _ (by omega) (by omega) | exact P1 _ _ (by omega) (by omega) | exact P2 _ _ (by omega) (by omega) | exact eF _ (by omega)) | first | assumption | exact W8 | exact W0 | exact W1 | exact W2 | exact W4 | exact W5 | exact W6 | exact W7 | exact K0 | exact K1 | exact I0 _ (by omega) | exact J0 _ (by omega) | exact J1 _ (by omega) | exact J2 _ (by omega) | exact F4 _ (by omega) | exact P0 _ _ (by omega) (by omega) | exact P1 _ _ (by omega) (by omega) | exact P2 _ _ (by omega) (by omega) | exact eF _ (by omega)) | first | assumption | exact W8 | exact W0 | exact W1 | exact W2 | exact W4 | exact W5 | exact W6 | exact W7 | exact K0 | exact K1 | exact I0 _ (by omega) | exact J0 _ (by omega) | exact J1 _ (by omega) | exact J2 _ (by omega) | exact F4 _ (by omega) | exact P0 _ _ (by omega) (by omega) | exact P1 _ _ (by omega) (by omega) | exact P2 _ _ (by omega) (by omega) | exact eF _ (by omega))) (k := ?_)
    refine r_icmp_ge (t := 96) hm rfl rfl (fun c45 => ?_) (fun c45 => ?_)
    · refine r_iinc hm rfl (hr := (by omega)) (k := ?_)
      refine r_goto (t := 17) hm rfl (k := ?_)
      have ek : k = pcs x i := by omega
      subst ek
      exact ih (d - 1) (by omega) (i + 1) _ _ _ _ (by omega) S1 eF e12 pM.next pL.next
    · refine r_aload_n hm rfl (k := ?_)
      refine r_getR (hm := hm) (hf := rfl) (hd := rfl) (hs := (by first | assumption | exact Z0 | exact Z14 | exact Z17 | exact Z20 | exact Z21 | exact Z22 | exact Z23 | exact Z24 | exact G1 | exact G8 | exact T1 | exact T2 | exact I1 _ (by omega) | exact I2 _ (by omega) | exact I3 _ (by omega) | exact I4 _ (by omega))) (hv := (by first | exact putI_eq | exact (putI_ne (by omega)).trans (by first | exact putI_eq | exact (putI_ne (by omega)).trans (by first | first | assumption | exact W8 | exact W0 | exact W1 | exact W2 | exact W4 | exact W5 | exact W6 | exact W7 | exact K0 | exact K1 | exact I0 _ (by omega) | exact J0 _ (by omega) | exact J1 _ (by omega) | exact J2 _ (by omega) | exact F4 _ (by omega) | exact P0 _ _ (by omega) (by omega) | exact P1 _ _ (by omega) (by omega) | exact P2 _ _ (by omega) (by omega) | exact eF _ (by omega)) | first | assumption | exact W8 | exact W0 | exact W1 | exact W2 | exact W4 | exact W5 | exact W6 | exact W7 | exact K0 | exact K1 | exact I0 _ (by omega) | exact J0 _ (by omega) | exact J1 _ (by omega) | exact J2 _ (by omega) | exact F4 _ (by omega) | exact P0 _ _ (by omega) (by omega) | exact P1 _ _ (by omega) (by omega) | exact P2 _ _ (by omega) (by omega) | exact eF _ (by omega)) | first | assumption | exact W8 | exact W0 | exact W1 | exact W2 | exact W4 | exact W5 | exact W6 | exact W7 | exact K0 | exact K1 | exact I0 _ (by omega) | exact J0 _ (by omega) | exact J1 _ (by omega) | exact J2 _ (by omega) | exact F4 _ (by omega) | exact P0 _ _ (by omega) (by omega) | exact P1 _ _ (by omega) (by omega) | exact P2 _ _ (by omega) (by omega) | exact eF _ (by omega))) (k := ?_)
      refine r_getR (hm := hm) (hf := rfl) (hd := rfl) (hs := (by first | assumption | exact Z0 | exact Z14 | exact Z17 | exact Z20 | exact Z21 | exact Z22 | exact Z23 | exact Z24 | exact G1 | exact G8 | exact T1 | exact T2 | exact I1 _ (by omega) | exact I2 _ (by omega) | exact I3 _ (by omega) | exact I4 _ (by omega))) (hv := (by first | exact putI_eq | exact (putI_ne (by omega)).trans (by first | exact putI_eq | exact (putI_ne (by omega)).trans (by first | first | assumption | exact W8 | exact W0 | exact W1 | exact W2 | exact W4 | exact W5 | exact W6 | exact W7 | exact K0 | exact K1 | exact I0 _ (by omega) | exact J0 _ (by omega) | exact J1 _ (by omega) | exact J2 _ (by omega) | exact F4 _ (by omega) | exact P0 _ _ (by omega) (by omega) | exact P1 _ _ (by omega) (by omega) | exact P2 _ _ (by omega) (by omega) | exact eF _ (by omega)) | first | assumption | exact W8 | exact W0 | exact W1 | exact W2 | exact W4 | exact W5 | exact W6 | exact W7 | exact K0 | exact K1 | exact I0 _ (by omega) | exact J0 _ (by omega) | exact J1 _ (by omega) | exact J2 _ (by omega) | exact F4 _ (by omega) | exact P0 _ _ (by omega) (by omega) | exact P1 _ _ (by omega) (by omega) | exact P2 _ _ (by omega) (by omega) | exact eF _ (by omega)) | first | assumption | exact W8 | exact W0 | exact W1 | exact W2 | exact W4 | exact W5 | exact W6 | exact W7 | exact K0 | exact K1 | exact I0 _ (by omega) | exact J0 _ (by omega) | exact J1 _ (by omega) | exact J2 _ (by omega) | exact F4 _ (by omega) | exact P0 _ _ (by omega) (by omega) | exact P1 _ _ (by omega) (by omega) | exact P2 _ _ (by omega) (by omega) | exact eF _ (by omega))) (k := ?_)
      refine r_iload_n hm rfl (k := ?_)
      refine r_iald (hm := hm) (hf := rfl) (hs := (by first | assumption | exact Z0 | exact Z14 | exact Z17 | exact Z20 | exact Z21 | exact Z22 | exact Z23 | exact Z24 | exact G1 | exact G8 | exact T1 | exact T2 | exact I1 _ (by omega) | exact I2 _ (by omega) | exact I3 _ (by omega) | exact I4 _ (by omega))) (hi := rfl) (hn := (by omega)) (hv := (by first | exact putI_eq | exact (putI_ne (by omega)).trans (by first | exact putI_eq | exact (putI_ne (by omega)).trans (by first | first | assumption | exact W8 | exact W0 | exact W1 | exact W2 | exact W4 | exact W5 | exact W6 | exact W7 | exact K0 | exact K1 | exact I0 _ (by omega) | exact J0 _ (by omega) | exact J1 _ (by omega) | exact J2 _ (by omega) | exact F4 _ (by omega) | exact P0 _ _ (by omega) (by omega) | exact P1 _ _ (by omega) (by omega) | exact P2 _ _ (by omega) (by omega) | exact eF _ (by omega)) | first | assumption | exact W8 | exact W0 | exact W1 | exact W2 | exact W4 | exact W5 | exact W6 | exact W7 | exact K0 | exact K1 | exact I0 _ (by omega) | exact J0 _ (by omega) | exact J1 _ (by omega) | exact J2 _ (by omega) | exact F4 _ (by omega) | exact P0 _ _ (by omega) (by omega) | exact P1 _ _ (by omega) (by omega) | exact P2 _ _ (by omega) (by omega) | exact eF _ (by omega)) | first | assumption | exact W8 | exact W0 | exact W1 | exact W2 | exact W4 | exact W5 | exact W6 | exact W7 | exact K0 | exact K1 | exact I0 _ (by omega) | exact J0 _ (by omega) | exact J1 _ (by omega) | exact J2 _ (by omega) | exact F4 _ (by omega) | exact P0 _ _ (by omega) (by omega) | exact P1 _ _ (by omega) (by omega) | exact P2 _ _ (by omega) (by omega) | exact eF _ (by omega))) (k := ?_)
      refine r_iload_n hm rfl (k := ?_)
      refine r_iadd hm rfl (hr := (by omega)) (k := ?_)
      refine r_istore hm rfl (k := ?_)
      have qM := c_meantBy g1 ht hR1 (i := i) (k := k) hi2 (by omega) (by omega)
      rw [eit] at qM
      refine r_aload_n hm rfl (k := ?_)
      refine r_getR (hm := hm) (hf := rfl) (hd := rfl) (hs := (by first | assumption | exact Z0 | exact Z14 | exact Z17 | exact Z20 | exact Z21 | exact Z22 | exact Z23 | exact Z24 | exact G1 | exact G8 | exact T1 | exact T2 | exact I1 _ (by omega) | exact I2 _ (by omega) | exact I3 _ (by omega) | exact I4 _ (by omega))) (hv := (by first | exact putI_eq | exact (putI_ne (by omega)).trans (by first | exact putI_eq | exact (putI_ne (by omega)).trans (by first | first | assumption | exact W8 | exact W0 | exact W1 | exact W2 | exact W4 | exact W5 | exact W6 | exact W7 | exact K0 | exact K1 | exact I0 _ (by omega) | exact J0 _ (by omega) | exact J1 _ (by omega) | exact J2 _ (by omega) | exact F4 _ (by omega) | exact P0 _ _ (by omega) (by omega) | exact P1 _ _ (by omega) (by omega) | exact P2 _ _ (by omega) (by omega) | exact eF _ (by omega)) | first | assumption | exact W8 | exact W0 | exact W1 | exact W2 | exact W4 | exact W5 | exact W6 | exact W7 | exact K0 | exact K1 | exact I0 _ (by omega) | exact J0 _ (by omega) | exact J1 _ (by omega) | exact J2 _ (by omega) | exact F4 _ (by omega) | exact P0 _ _ (by omega) (by omega) | exact P1 _ _ (by omega) (by omega) | exact P2 _ _ (by omega) (by omega) | exact eF _ (by omega)) | first | assumption | exact W8 | exact W0 | exact W1 | exact W2 | exact W4 | exact W5 | exact W6 | exact W7 | exact K0 | exact K1 | exact I0 _ (by omega) | exact J0 _ (by omega) | exact J1 _ (by omega) | exact J2 _ (by omega) | exact F4 _ (by omega) | exact P0 _ _ (by omega) (by omega) | exact P1 _ _ (by omega) (by omega) | exact P2 _ _ (by omega) (by omega) | exact eF _ (by omega))) (k := ?_)
      refine r_iload hm rfl (k := ?_)
      refine r_aload_n hm rfl (k := ?_)
      refine r_getR (hm := hm) (hf := rfl) (hd := rfl) (hs := (by first | assumption | exact Z0 | exact Z14 | exact Z17 | exact Z20 | exact Z21 | exact Z22 | exact Z23 | exact Z24 | exact G1 | exact G8 | exact T1 | exact T2 | exact I1 _ (by omega) | exact I2 _ (by omega) | exact I3 _ (by omega) | exact I4 _ (by omega))) (hv := (by first | exact putI_eq | exact (putI_ne (by omega)).trans (by first | exact putI_eq | exact (putI_ne (by omega)).trans (by first | first | assumption | exact W8 | exact W0 | exact W1 | exact W2 | exact W4 | exact W5 | exact W6 | exact W7 | exact K0 | exact K1 | exact I0 _ (by omega) | exact J0 _ (by omega) | exact J1 _ (by omega) | exact J2 _ (by omega) | exact F4 _ (by omega) | exact P0 _ _ (by omega) (by omega) | exact P1 _ _ (by omega) (by omega) | exact P2 _ _ (by omega) (by omega) | exact eF _ (by omega)) | first | assumption | exact W8 | exact W0 | exact W1 | exact W2 | exact W4 | exact W5 | exact W6 | exact W7 | exact K0 | exact K1 | exact I0 _ (by omega) | exact J0 _ (by omega) | exact J1 _ (by omega) | exact J2 _ (by omega) | exact F4 _ (by omega) | exact P0 _ _ (by omega) (by omega) | exact P1 _ _ (by omega) (by omega) | exact P2 _ _ (by omega) (by omega) | exact eF _ (by omega)) | first | assumption | exact W8 | exact W0 | exact W1 | exact W2 | exact W4 | exact W5 | exact W6 | exact W7 | exact K0 | exact K1 | exact I0 _ (by omega) | exact J0 _ (by omega) | exact J1 _ (by omega) | exact J2 _ (by omega) | exact F4 _ (by omega) | exact P0 _ _ (by omega) (by omega) | exact P1 _ _ (by omega) (by omega) | exact P2 _ _ (by omega) (by omega) | exact eF _ (by omega))) (k := ?_)
      refine r_aload_n hm rfl (k := ?_)
      refine r_iload_n hm rfl (k := ?_)
      refine r_callv (j2 := 50) hm rfl rfl rfl rfl rfl rfl (by first | assumption | exact Z0 | exact Z14 | exact Z17 | exact Z20 | exact Z21 | exact Z22 | exact Z23 | exact Z24 | exact G1 | exact G8 | exact T1 | exact T2 | exact I1 _ (by omega) | exact I2 _ (by omega) | exact I3 _ (by omega) | exact I4 _ (by omega)) (Nat.le_of_ble_eq_true rfl) (Nat.le_of_ble_eq_true rfl) rfl ⟨Nat.le_of_ble_eq_true rfl, Nat.le_of_ble_eq_true rfl, Nat.le_of_ble_eq_true rfl, Nat.le_of_ble_eq_true rfl, Nat.le_of_ble_eq_true rfl⟩ rfl (qM) (fun v9 h9 p9 => ?_)
      obtain ⟨e1, e2⟩ := p9
      subst e2
      replace e1 := e1.symm
      subst e1
      change RN 55 76 _ _ _ 0 0 _
      dsimp only [Option.toList, List.cons_append, List.nil_append]
      refine r_iast (hm := hm) (hf := rfl) (h28 := (by omega)) (hs := (by first | assumption | exact Z0 | exact Z14 | exact Z17 | exact Z20 | exact Z21 | exact Z22 | exact Z23 | exact Z24 | exact G1 | exact G8 | exact T1 | exact T2 | exact I1 _ (by omega) | exact I2 _ (by omega) | exact I3 _ (by omega) | exact I4 _ (by omega))) (kk := fst x i + k) (hi := by omega) (hn := (by omega)) (k := ?_)
      have SX := Sm.put (v := mnt x i k) S1 (show (fun a k => (a = s ∧ k = 12) ∨ a = s + 8 ∨ a = s + 21 ∨ a = s + 24) (s + 24) (fst x i + k) by omega)
      have qL := c_lettersAtFirst (SX.gg g) hS ht (SX.repC (fun a k q9 => isS_T hS ht (a := a) (by omega) (by omega)) hR) hok ((congrFun (congrFun (congrArg (fun z => z.1) SX.2.1) s) 8).trans hT8) (i := i) (k := k) hi2 (by omega) (by omega)
      rw [SX.itm] at qL
      refine r_aload_n hm rfl (k := ?_)
      refine r_getR (hm := hm) (hf := rfl) (hd := rfl) (hs := (by first | assumption | exact Z0 | exact Z14 | exact Z17 | exact Z20 | exact Z21 | exact Z22 | exact Z23 | exact Z24 | exact G1 | exact G8 | exact T1 | exact T2 | exact I1 _ (by omega) | exact I2 _ (by omega) | exact I3 _ (by omega) | exact I4 _ (by omega))) (hv := (by first | exact putI_eq | exact (putI_ne (by omega)).trans (by first | exact putI_eq | exact (putI_ne (by omega)).trans (by first | first | assumption | exact W8 | exact W0 | exact W1 | exact W2 | exact W4 | exact W5 | exact W6 | exact W7 | exact K0 | exact K1 | exact I0 _ (by omega) | exact J0 _ (by omega) | exact J1 _ (by omega) | exact J2 _ (by omega) | exact F4 _ (by omega) | exact P0 _ _ (by omega) (by omega) | exact P1 _ _ (by omega) (by omega) | exact P2 _ _ (by omega) (by omega) | exact eF _ (by omega)) | first | assumption | exact W8 | exact W0 | exact W1 | exact W2 | exact W4 | exact W5 | exact W6 | exact W7 | exact K0 | exact K1 | exact I0 _ (by omega) | exact J0 _ (by omega) | exact J1 _ (by omega) | exact J2 _ (by omega) | exact F4 _ (by omega) | exact P0 _ _ (by omega) (by omega) | exact P1 _ _ (by omega) (by omega) | exact P2 _ _ (by omega) (by omega) | exact eF _ (by omega)) | first | assumption | exact W8 | exact W0 | exact W1 | exact W2 | exact W4 | exact W5 | exact W6 | exact W7 | exact K0 | exact K1 | exact I0 _ (by omega) | exact J0 _ (by omega) | exact J1 _ (by omega) | exact J2 _ (by omega) | exact F4 _ (by omega) | exact P0 _ _ (by omega) (by omega) | exact P1 _ _ (by omega) (by omega) | exact P2 _ _ (by omega) (by omega) | exact eF _ (by omega))) (k := ?_)
      refine r_iload hm rfl (k := ?_)
      refine r_aload_n hm rfl (k := ?_)
      refine r_aload_n hm rfl (k := ?_)
      refine r_iload_n hm rfl (k := ?_)
      refine r_callv (j2 := 57) hm rfl rfl rfl rfl rfl rfl (by first | assumption | exact Z0 | exact Z14 | exact Z17 | exact Z20 | exact Z21 | exact Z22 | exact Z23 | exact Z24 | exact G1 | exact G8 | exact T1 | exact T2 | exact I1 _ (by omega) | exact I2 _ (by omega) | exact I3 _ (by omega) | exact I4 _ (by omega)) (Nat.le_of_ble_eq_true rfl) (Nat.le_of_ble_eq_true rfl) rfl ⟨Nat.le_of_ble_eq_true rfl, Nat.le_of_ble_eq_true rfl, Nat.le_of_ble_eq_true rfl, Nat.le_of_ble_eq_true rfl, Nat.le_of_ble_eq_true rfl⟩ rfl (qL) (fun v9 h9 p9 => ?_)
      obtain ⟨e1, e2⟩ := p9
      subst e2
      replace e1 := e1.symm
      subst e1
      change RN 55 89 _ _ _ 0 0 _
      dsimp only [Option.toList, List.cons_append, List.nil_append]
      refine r_iast (hm := hm) (hf := rfl) (h28 := (by omega)) (hs := (by first | assumption | exact Z0 | exact Z14 | exact Z17 | exact Z20 | exact Z21 | exact Z22 | exact Z23 | exact Z24 | exact G1 | exact G8 | exact T1 | exact T2 | exact I1 _ (by omega) | exact I2 _ (by omega) | exact I3 _ (by omega) | exact I4 _ (by omega))) (kk := fst x i + k) (hi := by omega) (hn := (by omega)) (k := ?_)
      refine r_iinc hm rfl (hr := (by omega)) (k := ?_)
      refine r_goto (t := 40) hm rfl (k := ?_)
      refine ih2 (d2 - 1) (by omega) (k + 1) _ _ (by omega) (Sm.put (Sm.put S1 (by omega)) (by omega)) (fun q hq => by rw [putI_ne (by omega), putI_ne (by omega)]; exact eF q hq) (by rw [putI_ne (by omega), putI_ne (by omega)]; exact e12) ((pM.put rfl).ne (by omega)) ((pL.ne (by omega)).put rfl)
set_option maxRecDepth 8000 in
theorem c_countNotes {L : Nat} {h : Hp} {s t : Nat} {x : Tx} (g : GG L h) (hS : isS s) (ht : isT t) (hR : RepC h t x) (hok : okTx x) (hT8 : h.2.2.1 s 8 = some t) {pp : Nat → Nat → Int} (hF : ∀ q, q < x.1 → h.2.1 (s + 8) q = (fst x q : Int)) (hpp : ∀ q k, q < x.1 → k < pcs x q → h.2.1 (s + 11) (fst x q + k) = pp q k) (hp1 : ∀ q k, q < x.1 → k < pcs x q → 1 ≤ pp q k) : RN 76 0 [some (.inr (.inr (some (s)))), none, none, none, none, none, none, none] [] h 0 0 (fun v h2 => Sm (fun a _ => a = s + 23) h h2 ∧ PcK h2 (s + 23) x (nct x pp) x.1 0 ∧ v = none) := by
  have hm : mrec 76 = some nM76 := rfl
  have n60 := hok.1
  refine r_iconst hm rfl (k := ?_)
  refine r_istore_n hm rfl (k := ?_)
  refine r_iconst hm rfl (k := ?_)
  refine r_istore_n hm rfl (k := ?_)
  refine r_iconst hm rfl (k := ?_)
  refine r_istore_n hm rfl (k := ?_)
  suffices LP : ∀ (d i : Nat) (h1 : Hp) (n on z : Int) (z4 z5 z6 z7 : Option Vl), i + d = x.1 → Sm (fun a _ => a = s + 23) h h1 → ntA x pp i = (n, on) → (z = on ∨ (on = 0 ∧ z = -1)) → PcK h1 (s + 23) x (nct x pp) i 0 → RN 76 6 [some (.inr (.inr (some (s)))), some (.inl n), some (.inl (z)), some (.inl (i : Int)), z4, z5, z6, z7] [] h1 0 0 (fun v h2 => Sm (fun a _ => a = s + 23) h h2 ∧ PcK h2 (s + 23) x (nct x pp) x.1 0 ∧ v = none) from LP x.1 0 _ 0 0 (-1) _ _ _ _ (by omega) Sm.refl rfl (by omega) PcK.nil
  refine fun d => Nat.strongRecOn d (fun d ih => ?_)
  intro i h1 n on z z4 z5 z6 z7 hd S1 hA hz pN
  have g1 := S1.gg g
  obtain ⟨G1, G2, G8, G9, G10, G11, G12, G13, K0, K1, K2, K3, K4, K5, K6, S28, G21⟩ := g1.ly hS
  obtain ⟨Z0, Z14, Z17, Z20, Z21, Z22, Z23, Z24, W0, W1, W2, W3, W4, W5, W6, W7, Y2⟩ := g1.st hS
  obtain ⟨T1, T2, T3, T4, T5, T6, T7⟩ := g1.tx ht
  have hR1 := S1.repC (fun a k q9 => isS_T hS ht (a := a) (by omega) (by omega)) hR
  obtain ⟨I0, I1, I2, I3, I4, J0, J1, J2, F0, F1, F2, F3, F4, P0, P1, P2⟩ := hR1.use g1 ht
  obtain ⟨R1, R2, R3, R4, R5, R6, R7⟩ := id hR1
  have eit := S1.itm t
  have w8 : h.2.2.1 s 8 = some t := hT8
  have W8 := (congrFun (congrFun (congrArg (fun z => z.1) S1.2.1) s) 8).trans w8
  simp only [S1.itm] at I0 I1 I2 I3 I4 J0 J1 J2 F0 F1 F2 F3 F4 P0 P1 P2
  have eP := fun q k hq hk => (S1.2.2 (s + 11) (fst x q + k) (by omega)).trans (hpp q k hq hk)
  have eF := fun q hq => (S1.2.2 (s + 8) q (by omega)).trans (hF q hq)
  refine r_iload_n hm rfl (k := ?_)
  refine r_aload_n hm rfl (k := ?_)
  refine r_getR (hm := hm) (hf := rfl) (hd := rfl) (hs := (by first | assumption | exact Z0 | exact Z14 | exact Z17 | exact Z20 | exact Z21 | exact Z22 | exact Z23 | exact Z24 | exact G1 | exact G8 | exact T1 | exact T2 | exact I1 _ (by omega) | exact I2 _ (by omega) | exact I3 _ (by omega) | exact I4 _ (by omega))) (hv := (by first | exact putI_eq | exact (putI_ne (by omega)).trans (by first | exact putI_eq | exact (putI_ne (by omega)).trans (by first | first | assumption | exact W8 | exact W0 | exact W1 | exact W2 | exact W4 | exact W5 | exact W6 | exact W7 | exact K0 | exact K1 | exact I0 _ (by omega) | exact J0 _ (by omega) | exact J1 _ (by omega) | exact J2 _ (by omega) | exact F4 _ (by omega) | exact P0 _ _ (by omega) (by omega) | exact P1 _ _ (by omega) (by omega) | exact P2 _ _ (by omega) (by omega) | exact eF _ (by omega)) | first | assumption | exact W8 | exact W0 | exact W1 | exact W2 | exact W4 | exact W5 | exact W6 | exact W7 | exact K0 | exact K1 | exact I0 _ (by omega) | exact J0 _ (by omega) | exact J1 _ (by omega) | exact J2 _ (by omega) | exact F4 _ (by omega) | exact P0 _ _ (by omega) (by omega) | exact P1 _ _ (by omega) (by omega) | exact P2 _ _ (by omega) (by omega) | exact eF _ (by omega)) | first | assumption | exact W8 | exact W0 | exact W1 | exact W2 | exact W4 | exact W5 | exact W6 | exact W7 | exact K0 | exact K1 | exact I0 _ (by omega) | exact J0 _ (by omega) | exact J1 _ (by omega) | exact J2 _ (by omega) | exact F4 _ (by omega) | exact P0 _ _ (by omega) (by omega) | exact P1 _ _ (by omega) (by omega) | exact P2 _ _ (by omega) (by omega) | exact eF _ (by omega))) (k := ?_)
  refine r_getI (hm := hm) (hf := rfl) (hd := rfl) (hs := (by first | assumption | exact Z0 | exact Z14 | exact Z17 | exact Z20 | exact Z21 | exact Z22 | exact Z23 | exact Z24 | exact G1 | exact G8 | exact T1 | exact T2 | exact I1 _ (by omega) | exact I2 _ (by omega) | exact I3 _ (by omega) | exact I4 _ (by omega))) (hv := (by first | exact putI_eq | exact (putI_ne (by omega)).trans (by first | exact putI_eq | exact (putI_ne (by omega)).trans (by first | first | assumption | exact W8 | exact W0 | exact W1 | exact W2 | exact W4 | exact W5 | exact W6 | exact W7 | exact K0 | exact K1 | exact I0 _ (by omega) | exact J0 _ (by omega) | exact J1 _ (by omega) | exact J2 _ (by omega) | exact F4 _ (by omega) | exact P0 _ _ (by omega) (by omega) | exact P1 _ _ (by omega) (by omega) | exact P2 _ _ (by omega) (by omega) | exact eF _ (by omega)) | first | assumption | exact W8 | exact W0 | exact W1 | exact W2 | exact W4 | exact W5 | exact W6 | exact W7 | exact K0 | exact K1 | exact I0 _ (by omega) | exact J0 _ (by omega) | exact J1 _ (by omega) | exact J2 _ (by omega) | exact F4 _ (by omega) | exact P0 _ _ (by omega) (by omega) | exact P1 _ _ (by omega) (by omega) | exact P2 _ _ (by omega) (by omega) | exact eF _ (by omega)) | first | assumption | exact W8 | exact W0 | exact W1 | exact W2 | exact W4 | exact W5 | exact W6 | exact W7 | exact K0 | exact K1 | exact I0 _ (by omega) | exact J0 _ (by omega) | exact J1 _ (by omega) | exact J2 _ (by omega) | exact F4 _ (by omega) | exact P0 _ _ (by omega) (by omega) | exact P1 _ _ (by omega) (by omega) | exact P2 _ _ (by omega) (by omega) | exact eF _ (by omega))) (k := ?_)
  refine r_icmp_ge (t := 137) hm rfl rfl (fun c14 => ?_) (fun c14 => ?_)
  · refine r_return hm rfl rfl (Nat.le_of_ble_eq_true rfl) (Nat.le_of_ble_eq_true rfl) ?_
    have ei : i = x.1 := by omega
    subst ei
    exact ⟨S1, pN, rfl⟩
  · have hi2 : i < x.1 := by omega
    obtain ⟨ep, ep2⟩ := pcs_eq hok hi2
    have hf := fst_le hok (i + 1) (by omega)
    have hf2 : fst x (i + 1) = fst x i + pcs x i := rfl
    have hIt := itm_S hS ht hR (i := i) (by omega)
    have ez : (if x.2.2.2 11 = 1 then (1 : Int) else 0) = x.2.2.2 11 := by have := hok.2.2.2.2.2.2.2.2.2 11 (by omega) (by omega); split <;> omega
    refine r_aload_n hm rfl (k := ?_)
    refine r_getR (hm := hm) (hf := rfl) (hd := rfl) (hs := (by first | assumption | exact Z0 | exact Z14 | exact Z17 | exact Z20 | exact Z21 | exact Z22 | exact Z23 | exact Z24 | exact G1 | exact G8 | exact T1 | exact T2 | exact I1 _ (by omega) | exact I2 _ (by omega) | exact I3 _ (by omega) | exact I4 _ (by omega))) (hv := (by first | exact putI_eq | exact (putI_ne (by omega)).trans (by first | exact putI_eq | exact (putI_ne (by omega)).trans (by first | first | assumption | exact W8 | exact W0 | exact W1 | exact W2 | exact W4 | exact W5 | exact W6 | exact W7 | exact K0 | exact K1 | exact I0 _ (by omega) | exact J0 _ (by omega) | exact J1 _ (by omega) | exact J2 _ (by omega) | exact F4 _ (by omega) | exact P0 _ _ (by omega) (by omega) | exact P1 _ _ (by omega) (by omega) | exact P2 _ _ (by omega) (by omega) | exact eF _ (by omega)) | first | assumption | exact W8 | exact W0 | exact W1 | exact W2 | exact W4 | exact W5 | exact W6 | exact W7 | exact K0 | exact K1 | exact I0 _ (by omega) | exact J0 _ (by omega) | exact J1 _ (by omega) | exact J2 _ (by omega) | exact F4 _ (by omega) | exact P0 _ _ (by omega) (by omega) | exact P1 _ _ (by omega) (by omega) | exact P2 _ _ (by omega) (by omega) | exact eF _ (by omega)) | first | assumption | exact W8 | exact W0 | exact W1 | exact W2 | exact W4 | exact W5 | exact W6 | exact W7 | exact K0 | exact K1 | exact I0 _ (by omega) | exact J0 _ (by omega) | exact J1 _ (by omega) | exact J2 _ (by omega) | exact F4 _ (by omega) | exact P0 _ _ (by omega) (by omega) | exact P1 _ _ (by omega) (by omega) | exact P2 _ _ (by omega) (by omega) | exact eF _ (by omega))) (k := ?_)
    refine r_getR (hm := hm) (hf := rfl) (hd := rfl) (hs := (by first | assumption | exact Z0 | exact Z14 | exact Z17 | exact Z20 | exact Z21 | exact Z22 | exact Z23 | exact Z24 | exact G1 | exact G8 | exact T1 | exact T2 | exact I1 _ (by omega) | exact I2 _ (by omega) | exact I3 _ (by omega) | exact I4 _ (by omega))) (hv := (by first | exact putI_eq | exact (putI_ne (by omega)).trans (by first | exact putI_eq | exact (putI_ne (by omega)).trans (by first | first | assumption | exact W8 | exact W0 | exact W1 | exact W2 | exact W4 | exact W5 | exact W6 | exact W7 | exact K0 | exact K1 | exact I0 _ (by omega) | exact J0 _ (by omega) | exact J1 _ (by omega) | exact J2 _ (by omega) | exact F4 _ (by omega) | exact P0 _ _ (by omega) (by omega) | exact P1 _ _ (by omega) (by omega) | exact P2 _ _ (by omega) (by omega) | exact eF _ (by omega)) | first | assumption | exact W8 | exact W0 | exact W1 | exact W2 | exact W4 | exact W5 | exact W6 | exact W7 | exact K0 | exact K1 | exact I0 _ (by omega) | exact J0 _ (by omega) | exact J1 _ (by omega) | exact J2 _ (by omega) | exact F4 _ (by omega) | exact P0 _ _ (by omega) (by omega) | exact P1 _ _ (by omega) (by omega) | exact P2 _ _ (by omega) (by omega) | exact eF _ (by omega)) | first | assumption | exact W8 | exact W0 | exact W1 | exact W2 | exact W4 | exact W5 | exact W6 | exact W7 | exact K0 | exact K1 | exact I0 _ (by omega) | exact J0 _ (by omega) | exact J1 _ (by omega) | exact J2 _ (by omega) | exact F4 _ (by omega) | exact P0 _ _ (by omega) (by omega) | exact P1 _ _ (by omega) (by omega) | exact P2 _ _ (by omega) (by omega) | exact eF _ (by omega))) (k := ?_)
    refine r_iload_n hm rfl (k := ?_)
    refine r_aald (hm := hm) (hf := rfl) (hs := (by first | assumption | exact Z0 | exact Z14 | exact Z17 | exact Z20 | exact Z21 | exact Z22 | exact Z23 | exact Z24 | exact G1 | exact G8 | exact T1 | exact T2 | exact I1 _ (by omega) | exact I2 _ (by omega) | exact I3 _ (by omega) | exact I4 _ (by omega))) (hkd := by decide) (hi := rfl) (hn := (by omega)) (hv := (by first | exact putI_eq | exact (putI_ne (by omega)).trans (by first | exact putI_eq | exact (putI_ne (by omega)).trans (by first | first | assumption | exact W8 | exact W0 | exact W1 | exact W2 | exact W4 | exact W5 | exact W6 | exact W7 | exact K0 | exact K1 | exact I0 _ (by omega) | exact J0 _ (by omega) | exact J1 _ (by omega) | exact J2 _ (by omega) | exact F4 _ (by omega) | exact P0 _ _ (by omega) (by omega) | exact P1 _ _ (by omega) (by omega) | exact P2 _ _ (by omega) (by omega) | exact eF _ (by omega)) | first | assumption | exact W8 | exact W0 | exact W1 | exact W2 | exact W4 | exact W5 | exact W6 | exact W7 | exact K0 | exact K1 | exact I0 _ (by omega) | exact J0 _ (by omega) | exact J1 _ (by omega) | exact J2 _ (by omega) | exact F4 _ (by omega) | exact P0 _ _ (by omega) (by omega) | exact P1 _ _ (by omega) (by omega) | exact P2 _ _ (by omega) (by omega) | exact eF _ (by omega)) | first | assumption | exact W8 | exact W0 | exact W1 | exact W2 | exact W4 | exact W5 | exact W6 | exact W7 | exact K0 | exact K1 | exact I0 _ (by omega) | exact J0 _ (by omega) | exact J1 _ (by omega) | exact J2 _ (by omega) | exact F4 _ (by omega) | exact P0 _ _ (by omega) (by omega) | exact P1 _ _ (by omega) (by omega) | exact P2 _ _ (by omega) (by omega) | exact eF _ (by omega))) (k := ?_)
    refine r_astore hm rfl (k := ?_)
    refine r_iconst hm rfl (k := ?_)
    refine r_istore hm rfl (k := ?_)
    suffices LP : ∀ (d2 k : Nat) (h1 : Hp) (n on z : Int) (z6 z7 : Option Vl), k + d2 = pcs x i → Sm (fun a _ => a = s + 23) h h1 → ntK x pp i k = (n, on) → (z = on ∨ (on = 0 ∧ z = -1)) → PcK h1 (s + 23) x (nct x pp) i k → RN 76 31 [some (.inr (.inr (some (s)))), some (.inl n), some (.inl (z)), some (.inl (i : Int)), some (.inr (.inr (some (itm h t i)))), some (.inl (k : Int)), z6, z7] [] h1 0 0 (fun v h2 => Sm (fun a _ => a = s + 23) h h2 ∧ PcK h2 (s + 23) x (nct x pp) x.1 0 ∧ v = none) from LP (pcs x i) 0 _ _ _ _ _ _ (by omega) S1 hA hz pN
    refine fun d2 => Nat.strongRecOn d2 (fun d2 ih2 => ?_)
    intro k h1 n on z z6 z7 hd2 S1 hA hz pN
    have g1 := S1.gg g
    obtain ⟨G1, G2, G8, G9, G10, G11, G12, G13, K0, K1, K2, K3, K4, K5, K6, S28, G21⟩ := g1.ly hS
    obtain ⟨Z0, Z14, Z17, Z20, Z21, Z22, Z23, Z24, W0, W1, W2, W3, W4, W5, W6, W7, Y2⟩ := g1.st hS
    obtain ⟨T1, T2, T3, T4, T5, T6, T7⟩ := g1.tx ht
    have hR1 := S1.repC (fun a k q9 => isS_T hS ht (a := a) (by omega) (by omega)) hR
    obtain ⟨I0, I1, I2, I3, I4, J0, J1, J2, F0, F1, F2, F3, F4, P0, P1, P2⟩ := hR1.use g1 ht
    obtain ⟨R1, R2, R3, R4, R5, R6, R7⟩ := id hR1
    have eit := S1.itm t
    have w8 : h.2.2.1 s 8 = some t := hT8
    have W8 := (congrFun (congrFun (congrArg (fun z => z.1) S1.2.1) s) 8).trans w8
    simp only [S1.itm] at I0 I1 I2 I3 I4 J0 J1 J2 F0 F1 F2 F3 F4 P0 P1 P2
    have eP := fun q k hq hk => (S1.2.2 (s + 11) (fst x q + k) (by omega)).trans (hpp q k hq hk)
    have eF := fun q hq => (S1.2.2 (s + 8) q (by omega)).trans (hF q hq)
    refine r_iload hm rfl (k := ?_)
    refine r_aload hm rfl (k := ?_)
    refine r_getI (hm := hm) (hf := rfl) (hd := rfl) (hs := (by first | assumption | exact Z0 | exact Z14 | exact Z17 | exact Z20 | exact Z21 | exact Z22 | exact Z23 | exact Z24 | exact G1 | exact G8 | exact T1 | exact T2 | exact I1 _ (by omega) | exact I2 _ (by omega) | exact I3 _ (by omega) | exact I4 _ (by omega))) (hv := (by first | exact putI_eq | exact (putI_ne (by omega)).trans (by first | exact putI_eq | exact (putI_ne (by omega)).trans (by first | first | assumption | exact W8 | exact W0 | exact W1 | exact W2 | exact W4 | exact W5 | exact W6 | exact W7 | exact K0 | exact K1 | exact I0 _ (by omega) | exact J0 _ (by omega) | exact J1 _ (by omega) | exact J2 _ (by omega) | exact F4 _ (by omega) | exact P0 _ _ (by omega) (by omega) | exact P1 _ _ (by omega) (by omega) | exact P2 _ _ (by omega) (by omega) | exact eF _ (by omega)) | first | assumption | exact W8 | exact W0 | exact W1 | exact W2 | exact W4 | exact W5 | exact W6 | exact W7 | exact K0 | exact K1 | exact I0 _ (by omega) | exact J0 _ (by omega) | exact J1 _ (by omega) | exact J2 _ (by omega) | exact F4 _ (by omega) | exact P0 _ _ (by omega) (by omega) | exact P1 _ _ (by omega) (by omega) | exact P2 _ _ (by omega) (by omega) | exact eF _ (by omega)) | first | assumption | exact W8 | exact W0 | exact W1 | exact W2 | exact W4 | exact W5 | exact W6 | exact W7 | exact K0 | exact K1 | exact I0 _ (by omega) | exact J0 _ (by omega) | exact J1 _ (by omega) | exact J2 _ (by omega) | exact F4 _ (by omega) | exact P0 _ _ (by omega) (by omega) | exact P1 _ _ (by omega) (by omega) | exact P2 _ _ (by omega) (by omega) | exact eF _ (by omega))) (k := ?_)
    refine r_icmp_ge (t := 131) hm rfl rfl (fun c38 => ?_) (fun c38 => ?_)
    · refine r_iinc hm rfl (hr := (by omega)) (k := ?_)
      refine r_goto (t := 6) hm rfl (k := ?_)
      have ek : k = pcs x i := by omega
      subst ek
      exact ih (d - 1) (by omega) (i + 1) _ n on z _ _ _ _ (by omega) S1 hA hz pN.next
    · have hk2 : k < pcs x i := by omega
      have hb := ntK_ok hp1 hi2 (k := k) (by omega)
      rw [hA] at hb
      dsimp only at hb
      have h1p := hp1 i k hi2 hk2
      have eS : ntK x pp i (k + 1) = nt1 x pp i k (n, on) := by rw [← hA]; rfl
      refine r_aload_n hm rfl (k := ?_)
      refine r_getR (hm := hm) (hf := rfl) (hd := rfl) (hs := (by first | assumption | exact Z0 | exact Z14 | exact Z17 | exact Z20 | exact Z21 | exact Z22 | exact Z23 | exact Z24 | exact G1 | exact G8 | exact T1 | exact T2 | exact I1 _ (by omega) | exact I2 _ (by omega) | exact I3 _ (by omega) | exact I4 _ (by omega))) (hv := (by first | exact putI_eq | exact (putI_ne (by omega)).trans (by first | exact putI_eq | exact (putI_ne (by omega)).trans (by first | first | assumption | exact W8 | exact W0 | exact W1 | exact W2 | exact W4 | exact W5 | exact W6 | exact W7 | exact K0 | exact K1 | exact I0 _ (by omega) | exact J0 _ (by omega) | exact J1 _ (by omega) | exact J2 _ (by omega) | exact F4 _ (by omega) | exact P0 _ _ (by omega) (by omega) | exact P1 _ _ (by omega) (by omega) | exact P2 _ _ (by omega) (by omega) | exact eF _ (by omega)) | first | assumption | exact W8 | exact W0 | exact W1 | exact W2 | exact W4 | exact W5 | exact W6 | exact W7 | exact K0 | exact K1 | exact I0 _ (by omega) | exact J0 _ (by omega) | exact J1 _ (by omega) | exact J2 _ (by omega) | exact F4 _ (by omega) | exact P0 _ _ (by omega) (by omega) | exact P1 _ _ (by omega) (by omega) | exact P2 _ _ (by omega) (by omega) | exact eF _ (by omega)) | first | assumption | exact W8 | exact W0 | exact W1 | exact W2 | exact W4 | exact W5 | exact W6 | exact W7 | exact K0 | exact K1 | exact I0 _ (by omega) | exact J0 _ (by omega) | exact J1 _ (by omega) | exact J2 _ (by omega) | exact F4 _ (by omega) | exact P0 _ _ (by omega) (by omega) | exact P1 _ _ (by omega) (by omega) | exact P2 _ _ (by omega) (by omega) | exact eF _ (by omega))) (k := ?_)
      refine r_getR (hm := hm) (hf := rfl) (hd := rfl) (hs := (by first | assumption | exact Z0 | exact Z14 | exact Z17 | exact Z20 | exact Z21 | exact Z22 | exact Z23 | exact Z24 | exact G1 | exact G8 | exact T1 | exact T2 | exact I1 _ (by omega) | exact I2 _ (by omega) | exact I3 _ (by omega) | exact I4 _ (by omega))) (hv := (by first | exact putI_eq | exact (putI_ne (by omega)).trans (by first | exact putI_eq | exact (putI_ne (by omega)).trans (by first | first | assumption | exact W8 | exact W0 | exact W1 | exact W2 | exact W4 | exact W5 | exact W6 | exact W7 | exact K0 | exact K1 | exact I0 _ (by omega) | exact J0 _ (by omega) | exact J1 _ (by omega) | exact J2 _ (by omega) | exact F4 _ (by omega) | exact P0 _ _ (by omega) (by omega) | exact P1 _ _ (by omega) (by omega) | exact P2 _ _ (by omega) (by omega) | exact eF _ (by omega)) | first | assumption | exact W8 | exact W0 | exact W1 | exact W2 | exact W4 | exact W5 | exact W6 | exact W7 | exact K0 | exact K1 | exact I0 _ (by omega) | exact J0 _ (by omega) | exact J1 _ (by omega) | exact J2 _ (by omega) | exact F4 _ (by omega) | exact P0 _ _ (by omega) (by omega) | exact P1 _ _ (by omega) (by omega) | exact P2 _ _ (by omega) (by omega) | exact eF _ (by omega)) | first | assumption | exact W8 | exact W0 | exact W1 | exact W2 | exact W4 | exact W5 | exact W6 | exact W7 | exact K0 | exact K1 | exact I0 _ (by omega) | exact J0 _ (by omega) | exact J1 _ (by omega) | exact J2 _ (by omega) | exact F4 _ (by omega) | exact P0 _ _ (by omega) (by omega) | exact P1 _ _ (by omega) (by omega) | exact P2 _ _ (by omega) (by omega) | exact eF _ (by omega))) (k := ?_)
      refine r_iload_n hm rfl (k := ?_)
      refine r_iald (hm := hm) (hf := rfl) (hs := (by first | assumption | exact Z0 | exact Z14 | exact Z17 | exact Z20 | exact Z21 | exact Z22 | exact Z23 | exact Z24 | exact G1 | exact G8 | exact T1 | exact T2 | exact I1 _ (by omega) | exact I2 _ (by omega) | exact I3 _ (by omega) | exact I4 _ (by omega))) (hi := rfl) (hn := (by omega)) (hv := (by first | exact putI_eq | exact (putI_ne (by omega)).trans (by first | exact putI_eq | exact (putI_ne (by omega)).trans (by first | first | assumption | exact W8 | exact W0 | exact W1 | exact W2 | exact W4 | exact W5 | exact W6 | exact W7 | exact K0 | exact K1 | exact I0 _ (by omega) | exact J0 _ (by omega) | exact J1 _ (by omega) | exact J2 _ (by omega) | exact F4 _ (by omega) | exact P0 _ _ (by omega) (by omega) | exact P1 _ _ (by omega) (by omega) | exact P2 _ _ (by omega) (by omega) | exact eF _ (by omega)) | first | assumption | exact W8 | exact W0 | exact W1 | exact W2 | exact W4 | exact W5 | exact W6 | exact W7 | exact K0 | exact K1 | exact I0 _ (by omega) | exact J0 _ (by omega) | exact J1 _ (by omega) | exact J2 _ (by omega) | exact F4 _ (by omega) | exact P0 _ _ (by omega) (by omega) | exact P1 _ _ (by omega) (by omega) | exact P2 _ _ (by omega) (by omega) | exact eF _ (by omega)) | first | assumption | exact W8 | exact W0 | exact W1 | exact W2 | exact W4 | exact W5 | exact W6 | exact W7 | exact K0 | exact K1 | exact I0 _ (by omega) | exact J0 _ (by omega) | exact J1 _ (by omega) | exact J2 _ (by omega) | exact F4 _ (by omega) | exact P0 _ _ (by omega) (by omega) | exact P1 _ _ (by omega) (by omega) | exact P2 _ _ (by omega) (by omega) | exact eF _ (by omega))) (k := ?_)
      refine r_iload hm rfl (k := ?_)
      refine r_iadd hm rfl (hr := (by omega)) (k := ?_)
      refine r_istore hm rfl (k := ?_)
      refine r_aload_n hm rfl (k := ?_)
      refine r_getR (hm := hm) (hf := rfl) (hd := rfl) (hs := (by first | assumption | exact Z0 | exact Z14 | exact Z17 | exact Z20 | exact Z21 | exact Z22 | exact Z23 | exact Z24 | exact G1 | exact G8 | exact T1 | exact T2 | exact I1 _ (by omega) | exact I2 _ (by omega) | exact I3 _ (by omega) | exact I4 _ (by omega))) (hv := (by first | exact putI_eq | exact (putI_ne (by omega)).trans (by first | exact putI_eq | exact (putI_ne (by omega)).trans (by first | first | assumption | exact W8 | exact W0 | exact W1 | exact W2 | exact W4 | exact W5 | exact W6 | exact W7 | exact K0 | exact K1 | exact I0 _ (by omega) | exact J0 _ (by omega) | exact J1 _ (by omega) | exact J2 _ (by omega) | exact F4 _ (by omega) | exact P0 _ _ (by omega) (by omega) | exact P1 _ _ (by omega) (by omega) | exact P2 _ _ (by omega) (by omega) | exact eF _ (by omega)) | first | assumption | exact W8 | exact W0 | exact W1 | exact W2 | exact W4 | exact W5 | exact W6 | exact W7 | exact K0 | exact K1 | exact I0 _ (by omega) | exact J0 _ (by omega) | exact J1 _ (by omega) | exact J2 _ (by omega) | exact F4 _ (by omega) | exact P0 _ _ (by omega) (by omega) | exact P1 _ _ (by omega) (by omega) | exact P2 _ _ (by omega) (by omega) | exact eF _ (by omega)) | first | assumption | exact W8 | exact W0 | exact W1 | exact W2 | exact W4 | exact W5 | exact W6 | exact W7 | exact K0 | exact K1 | exact I0 _ (by omega) | exact J0 _ (by omega) | exact J1 _ (by omega) | exact J2 _ (by omega) | exact F4 _ (by omega) | exact P0 _ _ (by omega) (by omega) | exact P1 _ _ (by omega) (by omega) | exact P2 _ _ (by omega) (by omega) | exact eF _ (by omega))) (k := ?_)
      refine r_iload hm rfl (k := ?_)
      refine r_iconst hm rfl (k := ?_)
      refine r_iast (hm := hm) (hf := rfl) (h28 := (by omega)) (hs := (by first | assumption | exact Z0 | exact Z14 | exact Z17 | exact Z20 | exact Z21 | exact Z22 | exact Z23 | exact Z24 | exact G1 | exact G8 | exact T1 | exact T2 | exact I1 _ (by omega) | exact I2 _ (by omega) | exact I3 _ (by omega) | exact I4 _ (by omega))) (kk := fst x i + k) (hi := by omega) (hn := (by omega)) (k := ?_)
      refine r_aload hm rfl (k := ?_)
      refine r_getR (hm := hm) (hf := rfl) (hd := rfl) (hs := (by first | assumption | exact Z0 | exact Z14 | exact Z17 | exact Z20 | exact Z21 | exact Z22 | exact Z23 | exact Z24 | exact G1 | exact G8 | exact T1 | exact T2 | exact I1 _ (by omega) | exact I2 _ (by omega) | exact I3 _ (by omega) | exact I4 _ (by omega))) (hv := (by first | exact putI_eq | exact (putI_ne (by omega)).trans (by first | exact putI_eq | exact (putI_ne (by omega)).trans (by first | first | assumption | exact W8 | exact W0 | exact W1 | exact W2 | exact W4 | exact W5 | exact W6 | exact W7 | exact K0 | exact K1 | exact I0 _ (by omega) | exact J0 _ (by omega) | exact J1 _ (by omega) | exact J2 _ (by omega) | exact F4 _ (by omega) | exact P0 _ _ (by omega) (by omega) | exact P1 _ _ (by omega) (by omega) | exact P2 _ _ (by omega) (by omega) | exact eF _ (by omega)) | first | assumption | exact W8 | exact W0 | exact W1 | exact W2 | exact W4 | exact W5 | exact W6 | exact W7 | exact K0 | exact K1 | exact I0 _ (by omega) | exact J0 _ (by omega) | exact J1 _ (by omega) | exact J2 _ (by omega) | exact F4 _ (by omega) | exact P0 _ _ (by omega) (by omega) | exact P1 _ _ (by omega) (by omega) | exact P2 _ _ (by omega) (by omega) | exact eF _ (by omega)) | first | assumption | exact W8 | exact W0 | exact W1 | exact W2 | exact W4 | exact W5 | exact W6 | exact W7 | exact K0 | exact K1 | exact I0 _ (by omega) | exact J0 _ (by omega) | exact J1 _ (by omega) | exact J2 _ (by omega) | exact F4 _ (by omega) | exact P0 _ _ (by omega) (by omega) | exact P1 _ _ (by omega) (by omega) | exact P2 _ _ (by omega) (by omega) | exact eF _ (by omega))) (k := ?_)
      refine r_iload hm rfl (k := ?_)
      refine r_iald (hm := hm) (hf := rfl) (hs := (by first | assumption | exact Z0 | exact Z14 | exact Z17 | exact Z20 | exact Z21 | exact Z22 | exact Z23 | exact Z24 | exact G1 | exact G8 | exact T1 | exact T2 | exact I1 _ (by omega) | exact I2 _ (by omega) | exact I3 _ (by omega) | exact I4 _ (by omega))) (hi := rfl) (hn := (by omega)) (hv := (by first | exact putI_eq | exact (putI_ne (by omega)).trans (by first | exact putI_eq | exact (putI_ne (by omega)).trans (by first | first | assumption | exact W8 | exact W0 | exact W1 | exact W2 | exact W4 | exact W5 | exact W6 | exact W7 | exact K0 | exact K1 | exact I0 _ (by omega) | exact J0 _ (by omega) | exact J1 _ (by omega) | exact J2 _ (by omega) | exact F4 _ (by omega) | exact P0 _ _ (by omega) (by omega) | exact P1 _ _ (by omega) (by omega) | exact P2 _ _ (by omega) (by omega) | exact eF _ (by omega)) | first | assumption | exact W8 | exact W0 | exact W1 | exact W2 | exact W4 | exact W5 | exact W6 | exact W7 | exact K0 | exact K1 | exact I0 _ (by omega) | exact J0 _ (by omega) | exact J1 _ (by omega) | exact J2 _ (by omega) | exact F4 _ (by omega) | exact P0 _ _ (by omega) (by omega) | exact P1 _ _ (by omega) (by omega) | exact P2 _ _ (by omega) (by omega) | exact eF _ (by omega)) | first | assumption | exact W8 | exact W0 | exact W1 | exact W2 | exact W4 | exact W5 | exact W6 | exact W7 | exact K0 | exact K1 | exact I0 _ (by omega) | exact J0 _ (by omega) | exact J1 _ (by omega) | exact J2 _ (by omega) | exact F4 _ (by omega) | exact P0 _ _ (by omega) (by omega) | exact P1 _ _ (by omega) (by omega) | exact P2 _ _ (by omega) (by omega) | exact eF _ (by omega))) (k := ?_)
      refine r_iconst hm rfl (k := ?_)
      refine r_icmp_ne (t := 125) hm rfl rfl (fun c72 => ?_) (fun c72 => ?_)
      · refine r_iinc hm rfl (hr := (by omega)) (k := ?_)
        refine r_goto (t := 31) hm rfl (k := ?_)
        have eN : nct x pp i k = 0 := if_neg (by omega)
        exact ih2 (d2 - 1) (by omega) (k + 1) _ n on z _ _ (by omega) (Sm.put S1 rfl) (eS.trans (if_neg (by omega))) hz (pN.put eN.symm)
      · have qP := c_pageOfPiece (h := putI h1 (s + 23) (fst x i + k) 0) (w := pp i k) ((Sm.put (v := 0) S1 (show (fun a _ => a = s + 23) (s + 23) (fst x i + k) from rfl)).gg g) hS (F := fst x i) (i := i) (k := k) (by omega) (by omega) ((putI_ne (by omega)).trans (eF i hi2)) ((putI_ne (by omega)).trans (eP i k hi2 hk2))
        refine r_aload_n hm rfl (k := ?_)
        refine r_getR (hm := hm) (hf := rfl) (hd := rfl) (hs := (by first | assumption | exact Z0 | exact Z14 | exact Z17 | exact Z20 | exact Z21 | exact Z22 | exact Z23 | exact Z24 | exact G1 | exact G8 | exact T1 | exact T2 | exact I1 _ (by omega) | exact I2 _ (by omega) | exact I3 _ (by omega) | exact I4 _ (by omega))) (hv := (by first | exact putI_eq | exact (putI_ne (by omega)).trans (by first | exact putI_eq | exact (putI_ne (by omega)).trans (by first | first | assumption | exact W8 | exact W0 | exact W1 | exact W2 | exact W4 | exact W5 | exact W6 | exact W7 | exact K0 | exact K1 | exact I0 _ (by omega) | exact J0 _ (by omega) | exact J1 _ (by omega) | exact J2 _ (by omega) | exact F4 _ (by omega) | exact P0 _ _ (by omega) (by omega) | exact P1 _ _ (by omega) (by omega) | exact P2 _ _ (by omega) (by omega) | exact eF _ (by omega)) | first | assumption | exact W8 | exact W0 | exact W1 | exact W2 | exact W4 | exact W5 | exact W6 | exact W7 | exact K0 | exact K1 | exact I0 _ (by omega) | exact J0 _ (by omega) | exact J1 _ (by omega) | exact J2 _ (by omega) | exact F4 _ (by omega) | exact P0 _ _ (by omega) (by omega) | exact P1 _ _ (by omega) (by omega) | exact P2 _ _ (by omega) (by omega) | exact eF _ (by omega)) | first | assumption | exact W8 | exact W0 | exact W1 | exact W2 | exact W4 | exact W5 | exact W6 | exact W7 | exact K0 | exact K1 | exact I0 _ (by omega) | exact J0 _ (by omega) | exact J1 _ (by omega) | exact J2 _ (by omega) | exact F4 _ (by omega) | exact P0 _ _ (by omega) (by omega) | exact P1 _ _ (by omega) (by omega) | exact P2 _ _ (by omega) (by omega) | exact eF _ (by omega))) (k := ?_)
        refine r_iload_n hm rfl (k := ?_)
        refine r_iload hm rfl (k := ?_)
        refine r_callv (j2 := 77) hm rfl rfl rfl rfl rfl rfl (by first | assumption | exact Z0 | exact Z14 | exact Z17 | exact Z20 | exact Z21 | exact Z22 | exact Z23 | exact Z24 | exact G1 | exact G8 | exact T1 | exact T2 | exact I1 _ (by omega) | exact I2 _ (by omega) | exact I3 _ (by omega) | exact I4 _ (by omega)) (Nat.le_of_ble_eq_true rfl) (Nat.le_of_ble_eq_true rfl) rfl ⟨Nat.le_of_ble_eq_true rfl, Nat.le_of_ble_eq_true rfl, Nat.le_of_ble_eq_true rfl, Nat.le_of_ble_eq_true rfl, Nat.le_of_ble_eq_true rfl⟩ rfl (qP) (fun v9 h9 p9 => ?_)
        obtain ⟨e1, e2⟩ := p9
        subst e2
        replace e1 := e1.symm
        subst e1
        change RN 76 85 _ _ _ 0 0 _
        dsimp only [Option.toList, List.cons_append, List.nil_append]
        refine r_istore hm rfl (k := ?_)
        refine r_aload_n hm rfl (k := ?_)
        refine r_getR (hm := hm) (hf := rfl) (hd := rfl) (hs := (by first | assumption | exact Z0 | exact Z14 | exact Z17 | exact Z20 | exact Z21 | exact Z22 | exact Z23 | exact Z24 | exact G1 | exact G8 | exact T1 | exact T2 | exact I1 _ (by omega) | exact I2 _ (by omega) | exact I3 _ (by omega) | exact I4 _ (by omega))) (hv := (by first | exact putI_eq | exact (putI_ne (by omega)).trans (by first | exact putI_eq | exact (putI_ne (by omega)).trans (by first | first | assumption | exact W8 | exact W0 | exact W1 | exact W2 | exact W4 | exact W5 | exact W6 | exact W7 | exact K0 | exact K1 | exact I0 _ (by omega) | exact J0 _ (by omega) | exact J1 _ (by omega) | exact J2 _ (by omega) | exact F4 _ (by omega) | exact P0 _ _ (by omega) (by omega) | exact P1 _ _ (by omega) (by omega) | exact P2 _ _ (by omega) (by omega) | exact eF _ (by omega)) | first | assumption | exact W8 | exact W0 | exact W1 | exact W2 | exact W4 | exact W5 | exact W6 | exact W7 | exact K0 | exact K1 | exact I0 _ (by omega) | exact J0 _ (by omega) | exact J1 _ (by omega) | exact J2 _ (by omega) | exact F4 _ (by omega) | exact P0 _ _ (by omega) (by omega) | exact P1 _ _ (by omega) (by omega) | exact P2 _ _ (by omega) (by omega) | exact eF _ (by omega)) | first | assumption | exact W8 | exact W0 | exact W1 | exact W2 | exact W4 | exact W5 | exact W6 | exact W7 | exact K0 | exact K1 | exact I0 _ (by omega) | exact J0 _ (by omega) | exact J1 _ (by omega) | exact J2 _ (by omega) | exact F4 _ (by omega) | exact P0 _ _ (by omega) (by omega) | exact P1 _ _ (by omega) (by omega) | exact P2 _ _ (by omega) (by omega) | exact eF _ (by omega))) (k := ?_)
        refine r_getR (hm := hm) (hf := rfl) (hd := rfl) (hs := (by first | assumption | exact Z0 | exact Z14 | exact Z17 | exact Z20 | exact Z21 | exact Z22 | exact Z23 | exact Z24 | exact G1 | exact G8 | exact T1 | exact T2 | exact I1 _ (by omega) | exact I2 _ (by omega) | exact I3 _ (by omega) | exact I4 _ (by omega))) (hv := (by first | exact putI_eq | exact (putI_ne (by omega)).trans (by first | exact putI_eq | exact (putI_ne (by omega)).trans (by first | first | assumption | exact W8 | exact W0 | exact W1 | exact W2 | exact W4 | exact W5 | exact W6 | exact W7 | exact K0 | exact K1 | exact I0 _ (by omega) | exact J0 _ (by omega) | exact J1 _ (by omega) | exact J2 _ (by omega) | exact F4 _ (by omega) | exact P0 _ _ (by omega) (by omega) | exact P1 _ _ (by omega) (by omega) | exact P2 _ _ (by omega) (by omega) | exact eF _ (by omega)) | first | assumption | exact W8 | exact W0 | exact W1 | exact W2 | exact W4 | exact W5 | exact W6 | exact W7 | exact K0 | exact K1 | exact I0 _ (by omega) | exact J0 _ (by omega) | exact J1 _ (by omega) | exact J2 _ (by omega) | exact F4 _ (by omega) | exact P0 _ _ (by omega) (by omega) | exact P1 _ _ (by omega) (by omega) | exact P2 _ _ (by omega) (by omega) | exact eF _ (by omega)) | first | assumption | exact W8 | exact W0 | exact W1 | exact W2 | exact W4 | exact W5 | exact W6 | exact W7 | exact K0 | exact K1 | exact I0 _ (by omega) | exact J0 _ (by omega) | exact J1 _ (by omega) | exact J2 _ (by omega) | exact F4 _ (by omega) | exact P0 _ _ (by omega) (by omega) | exact P1 _ _ (by omega) (by omega) | exact P2 _ _ (by omega) (by omega) | exact eF _ (by omega))) (k := ?_)
        refine r_callv (j2 := 78) hm rfl rfl rfl rfl rfl rfl (by first | assumption | exact Z0 | exact Z14 | exact Z17 | exact Z20 | exact Z21 | exact Z22 | exact Z23 | exact Z24 | exact G1 | exact G8 | exact T1 | exact T2 | exact I1 _ (by omega) | exact I2 _ (by omega) | exact I3 _ (by omega) | exact I4 _ (by omega)) (Nat.le_of_ble_eq_true rfl) (Nat.le_of_ble_eq_true rfl) rfl ⟨Nat.le_of_ble_eq_true rfl, Nat.le_of_ble_eq_true rfl, Nat.le_of_ble_eq_true rfl, Nat.le_of_ble_eq_true rfl, Nat.le_of_ble_eq_true rfl⟩ rfl (c_notesAnew (s := t + 2) T3 T4 T7) (fun v9 h9 p9 => ?_)
        obtain ⟨e1, e2⟩ := p9
        subst e2
        replace e1 := e1.symm
        subst e1
        rw [show (putI h1 (s + 23) (fst x i + k) 0).2.1 (t + 2 + 1) 11 = x.2.2.2 11 from (putI_ne (by have := isS_T hS ht (a := s + 23) (by omega) (by omega); omega)).trans (R7 11 (by omega)), ez]
        change RN 76 97 _ _ _ 0 0 _
        dsimp only [Option.toList, List.cons_append, List.nil_append]
        have hst := hok.2.2.2.2.2.2.2.2.2 11 (by omega) (by omega)
        refine r_if_eq (t := 110) hm rfl rfl (fun c97 => ?_) (fun c97 => ?_)
        · refine r_iload_n hm rfl (k := ?_)
          refine r_iconst hm rfl (k := ?_)
          refine r_iadd hm rfl (hr := (by omega)) (k := ?_)
          refine r_istore_n hm rfl (k := ?_)
          refine r_iload hm rfl (k := ?_)
          refine r_istore_n hm rfl (k := ?_)
          refine r_aload_n hm rfl (k := ?_)
          refine r_getR (hm := hm) (hf := rfl) (hd := rfl) (hs := (by first | assumption | exact Z0 | exact Z14 | exact Z17 | exact Z20 | exact Z21 | exact Z22 | exact Z23 | exact Z24 | exact G1 | exact G8 | exact T1 | exact T2 | exact I1 _ (by omega) | exact I2 _ (by omega) | exact I3 _ (by omega) | exact I4 _ (by omega))) (hv := (by first | exact putI_eq | exact (putI_ne (by omega)).trans (by first | exact putI_eq | exact (putI_ne (by omega)).trans (by first | first | assumption | exact W8 | exact W0 | exact W1 | exact W2 | exact W4 | exact W5 | exact W6 | exact W7 | exact K0 | exact K1 | exact I0 _ (by omega) | exact J0 _ (by omega) | exact J1 _ (by omega) | exact J2 _ (by omega) | exact F4 _ (by omega) | exact P0 _ _ (by omega) (by omega) | exact P1 _ _ (by omega) (by omega) | exact P2 _ _ (by omega) (by omega) | exact eF _ (by omega)) | first | assumption | exact W8 | exact W0 | exact W1 | exact W2 | exact W4 | exact W5 | exact W6 | exact W7 | exact K0 | exact K1 | exact I0 _ (by omega) | exact J0 _ (by omega) | exact J1 _ (by omega) | exact J2 _ (by omega) | exact F4 _ (by omega) | exact P0 _ _ (by omega) (by omega) | exact P1 _ _ (by omega) (by omega) | exact P2 _ _ (by omega) (by omega) | exact eF _ (by omega)) | first | assumption | exact W8 | exact W0 | exact W1 | exact W2 | exact W4 | exact W5 | exact W6 | exact W7 | exact K0 | exact K1 | exact I0 _ (by omega) | exact J0 _ (by omega) | exact J1 _ (by omega) | exact J2 _ (by omega) | exact F4 _ (by omega) | exact P0 _ _ (by omega) (by omega) | exact P1 _ _ (by omega) (by omega) | exact P2 _ _ (by omega) (by omega) | exact eF _ (by omega))) (k := ?_)
          refine r_iload hm rfl (k := ?_)
          refine r_iload_n hm rfl (k := ?_)
          refine r_iast (hm := hm) (hf := rfl) (h28 := (by omega)) (hs := (by first | assumption | exact Z0 | exact Z14 | exact Z17 | exact Z20 | exact Z21 | exact Z22 | exact Z23 | exact Z24 | exact G1 | exact G8 | exact T1 | exact T2 | exact I1 _ (by omega) | exact I2 _ (by omega) | exact I3 _ (by omega) | exact I4 _ (by omega))) (kk := fst x i + k) (hi := by omega) (hn := (by omega)) (k := ?_)
          refine r_iinc hm rfl (hr := (by omega)) (k := ?_)
          refine r_goto (t := 31) hm rfl (k := ?_)
          have eS2 : ntK x pp i (k + 1) = ((n + 1), pp i k) := by
            rw [eS]
            unfold nt1
            rw [if_pos (by omega), if_neg (by dsimp only; omega)]
          have eN : nct x pp i k = (n + 1) := by
            unfold nct
            rw [if_pos (by omega), eS2]
          exact ih2 (d2 - 1) (by omega) (k + 1) _ (n + 1) (pp i k) (pp i k) _ _ (by omega) (Sm.put (Sm.put S1 rfl) rfl) eS2 (Or.inl rfl) (pN.at.put eN.symm)
        · refine r_iload hm rfl (k := ?_)
          refine r_iload_n hm rfl (k := ?_)
          refine r_icmp_eq (t := 110) hm rfl rfl (fun c103 => ?_) (fun c103 => ?_)
          · refine r_iload_n hm rfl (k := ?_)
            refine r_iconst hm rfl (k := ?_)
            refine r_iadd hm rfl (hr := (by omega)) (k := ?_)
            refine r_istore_n hm rfl (k := ?_)
            refine r_iload hm rfl (k := ?_)
            refine r_istore_n hm rfl (k := ?_)
            refine r_aload_n hm rfl (k := ?_)
            refine r_getR (hm := hm) (hf := rfl) (hd := rfl) (hs := (by first | assumption | exact Z0 | exact Z14 | exact Z17 | exact Z20 | exact Z21 | exact Z22 | exact Z23 | exact Z24 | exact G1 | exact G8 | exact T1 | exact T2 | exact I1 _ (by omega) | exact I2 _ (by omega) | exact I3 _ (by omega) | exact I4 _ (by omega))) (hv := (by first | exact putI_eq | exact (putI_ne (by omega)).trans (by first | exact putI_eq | exact (putI_ne (by omega)).trans (by first | first | assumption | exact W8 | exact W0 | exact W1 | exact W2 | exact W4 | exact W5 | exact W6 | exact W7 | exact K0 | exact K1 | exact I0 _ (by omega) | exact J0 _ (by omega) | exact J1 _ (by omega) | exact J2 _ (by omega) | exact F4 _ (by omega) | exact P0 _ _ (by omega) (by omega) | exact P1 _ _ (by omega) (by omega) | exact P2 _ _ (by omega) (by omega) | exact eF _ (by omega)) | first | assumption | exact W8 | exact W0 | exact W1 | exact W2 | exact W4 | exact W5 | exact W6 | exact W7 | exact K0 | exact K1 | exact I0 _ (by omega) | exact J0 _ (by omega) | exact J1 _ (by omega) | exact J2 _ (by omega) | exact F4 _ (by omega) | exact P0 _ _ (by omega) (by omega) | exact P1 _ _ (by omega) (by omega) | exact P2 _ _ (by omega) (by omega) | exact eF _ (by omega)) | first | assumption | exact W8 | exact W0 | exact W1 | exact W2 | exact W4 | exact W5 | exact W6 | exact W7 | exact K0 | exact K1 | exact I0 _ (by omega) | exact J0 _ (by omega) | exact J1 _ (by omega) | exact J2 _ (by omega) | exact F4 _ (by omega) | exact P0 _ _ (by omega) (by omega) | exact P1 _ _ (by omega) (by omega) | exact P2 _ _ (by omega) (by omega) | exact eF _ (by omega))) (k := ?_)
            refine r_iload hm rfl (k := ?_)
            refine r_iload_n hm rfl (k := ?_)
            refine r_iast (hm := hm) (hf := rfl) (h28 := (by omega)) (hs := (by first | assumption | exact Z0 | exact Z14 | exact Z17 | exact Z20 | exact Z21 | exact Z22 | exact Z23 | exact Z24 | exact G1 | exact G8 | exact T1 | exact T2 | exact I1 _ (by omega) | exact I2 _ (by omega) | exact I3 _ (by omega) | exact I4 _ (by omega))) (kk := fst x i + k) (hi := by omega) (hn := (by omega)) (k := ?_)
            refine r_iinc hm rfl (hr := (by omega)) (k := ?_)
            refine r_goto (t := 31) hm rfl (k := ?_)
            have eS2 : ntK x pp i (k + 1) = ((n + 1), pp i k) := by
              rw [eS]
              unfold nt1
              rw [if_pos (by omega), if_neg (by dsimp only; omega)]
            have eN : nct x pp i k = (n + 1) := by
              unfold nct
              rw [if_pos (by omega), eS2]
            exact ih2 (d2 - 1) (by omega) (k + 1) _ (n + 1) (pp i k) (pp i k) _ _ (by omega) (Sm.put (Sm.put S1 rfl) rfl) eS2 (Or.inl rfl) (pN.at.put eN.symm)
          · refine r_iconst hm rfl (k := ?_)
            refine r_goto (t := 113) hm rfl (k := ?_)
            refine r_istore_n hm rfl (k := ?_)
            refine r_iload hm rfl (k := ?_)
            refine r_istore_n hm rfl (k := ?_)
            refine r_aload_n hm rfl (k := ?_)
            refine r_getR (hm := hm) (hf := rfl) (hd := rfl) (hs := (by first | assumption | exact Z0 | exact Z14 | exact Z17 | exact Z20 | exact Z21 | exact Z22 | exact Z23 | exact Z24 | exact G1 | exact G8 | exact T1 | exact T2 | exact I1 _ (by omega) | exact I2 _ (by omega) | exact I3 _ (by omega) | exact I4 _ (by omega))) (hv := (by first | exact putI_eq | exact (putI_ne (by omega)).trans (by first | exact putI_eq | exact (putI_ne (by omega)).trans (by first | first | assumption | exact W8 | exact W0 | exact W1 | exact W2 | exact W4 | exact W5 | exact W6 | exact W7 | exact K0 | exact K1 | exact I0 _ (by omega) | exact J0 _ (by omega) | exact J1 _ (by omega) | exact J2 _ (by omega) | exact F4 _ (by omega) | exact P0 _ _ (by omega) (by omega) | exact P1 _ _ (by omega) (by omega) | exact P2 _ _ (by omega) (by omega) | exact eF _ (by omega)) | first | assumption | exact W8 | exact W0 | exact W1 | exact W2 | exact W4 | exact W5 | exact W6 | exact W7 | exact K0 | exact K1 | exact I0 _ (by omega) | exact J0 _ (by omega) | exact J1 _ (by omega) | exact J2 _ (by omega) | exact F4 _ (by omega) | exact P0 _ _ (by omega) (by omega) | exact P1 _ _ (by omega) (by omega) | exact P2 _ _ (by omega) (by omega) | exact eF _ (by omega)) | first | assumption | exact W8 | exact W0 | exact W1 | exact W2 | exact W4 | exact W5 | exact W6 | exact W7 | exact K0 | exact K1 | exact I0 _ (by omega) | exact J0 _ (by omega) | exact J1 _ (by omega) | exact J2 _ (by omega) | exact F4 _ (by omega) | exact P0 _ _ (by omega) (by omega) | exact P1 _ _ (by omega) (by omega) | exact P2 _ _ (by omega) (by omega) | exact eF _ (by omega))) (k := ?_)
            refine r_iload hm rfl (k := ?_)
            refine r_iload_n hm rfl (k := ?_)
            refine r_iast (hm := hm) (hf := rfl) (h28 := (by omega)) (hs := (by first | assumption | exact Z0 | exact Z14 | exact Z17 | exact Z20 | exact Z21 | exact Z22 | exact Z23 | exact Z24 | exact G1 | exact G8 | exact T1 | exact T2 | exact I1 _ (by omega) | exact I2 _ (by omega) | exact I3 _ (by omega) | exact I4 _ (by omega))) (kk := fst x i + k) (hi := by omega) (hn := (by omega)) (k := ?_)
            refine r_iinc hm rfl (hr := (by omega)) (k := ?_)
            refine r_goto (t := 31) hm rfl (k := ?_)
            have eS2 : ntK x pp i (k + 1) = (1, pp i k) := by
              rw [eS]
              unfold nt1
              rw [if_pos (by omega), if_pos ⟨by omega, by dsimp only; omega⟩]
            have eN : nct x pp i k = 1 := by
              unfold nct
              rw [if_pos (by omega), eS2]
            exact ih2 (d2 - 1) (by omega) (k + 1) _ 1 (pp i k) (pp i k) _ _ (by omega) (Sm.put (Sm.put S1 rfl) rfl) eS2 (Or.inl rfl) (pN.at.put eN.symm)
theorem c_sayCall {L : Nat} {h : Hp} {s n : Nat} {sd fq : Nat → Int} {to way pc : Int} (g : GG L h) (hS : isS s) (hn : n ≤ 60) (hSd : ∀ q, q < n → h.2.1 (s + 17) q = sd q) (hFq : ∀ q, q < n → h.2.1 (s + 4) q = fq q) (hFr : ∀ q, q < n → 1 ≤ fq q ∧ fq q ≤ 1250) (hto : to = -1 ∨ (0 ≤ to ∧ to < n)) (hpc : 0 ≤ pc ∧ pc ≤ 1250) : RN 80 0 [some (.inr (.inr (some (s)))), some (.inl to), some (.inl way), some (.inl pc), none, none] [] h 0 0 (fun v h2 => h2 = h ∧ v = some (.inl (scl sd fq to way pc))) := by
  have hm : mrec 80 = some nM80 := rfl
  obtain ⟨G1, G2, G8, G9, G10, G11, G12, G13, K0, K1, K2, K3, K4, K5, K6, S28, G21⟩ := g.ly hS
  obtain ⟨Z0, Z14, Z17, Z20, Z21, Z22, Z23, Z24, W0, W1, W2, W3, W4, W5, W6, W7, Y2⟩ := g.st hS
  have ZP := (g.pg (isS_P hS)).1
  have ZQ := (g.pg (isS_P hS)).2.2.1
  have YP := (g.pg (isS_P hS)).2.2.2.2.2.2.2.1
  refine r_iload_n hm rfl (k := ?_)
  refine r_iconst hm rfl (k := ?_)
  refine r_icmp_ne (t := 7) hm rfl rfl (fun c2 => ?_) (fun c2 => ?_)
  · refine r_iload_n hm rfl (k := ?_)
    refine r_if_ne (t := 21) hm rfl rfl (fun c8 => ?_) (fun c8 => ?_)
    · have hfq := hFq to.toNat (by omega)
      have hfr := hFr to.toNat (by omega)
      refine r_aload_n hm rfl (k := ?_)
      refine r_getR (hm := hm) (hf := rfl) (hd := rfl) (hs := (by first | assumption | exact Z0 | exact Z14 | exact Z17 | exact Z20 | exact Z21 | exact Z22 | exact Z23 | exact Z24 | exact G1 | exact G8 | fail | fail | fail | fail | exact ZP | exact ZQ)) (hv := (by first | assumption | exact W0 | exact W1 | exact K0 | exact Y2 | exact YP | exact hsd | exact hfq)) (k := ?_)
      refine r_getR (hm := hm) (hf := rfl) (hd := rfl) (hs := (by first | assumption | exact Z0 | exact Z14 | exact Z17 | exact Z20 | exact Z21 | exact Z22 | exact Z23 | exact Z24 | exact G1 | exact G8 | fail | fail | fail | fail | exact ZP | exact ZQ)) (hv := (by first | assumption | exact W0 | exact W1 | exact K0 | exact Y2 | exact YP | exact hsd | exact hfq)) (k := ?_)
      refine r_getR (hm := hm) (hf := rfl) (hd := rfl) (hs := (by first | assumption | exact Z0 | exact Z14 | exact Z17 | exact Z20 | exact Z21 | exact Z22 | exact Z23 | exact Z24 | exact G1 | exact G8 | fail | fail | fail | fail | exact ZP | exact ZQ)) (hv := (by first | assumption | exact W0 | exact W1 | exact K0 | exact Y2 | exact YP | exact hsd | exact hfq)) (k := ?_)
      refine r_iload_n hm rfl (k := ?_)
      refine r_iald (hm := hm) (hf := rfl) (hs := (by first | assumption | exact Z0 | exact Z14 | exact Z17 | exact Z20 | exact Z21 | exact Z22 | exact Z23 | exact Z24 | exact G1 | exact G8 | fail | fail | fail | fail | exact ZP | exact ZQ)) (kk := to.toNat) (hi := by omega) (hn := (by omega)) (hv := (by first | assumption | exact W0 | exact W1 | exact K0 | exact Y2 | exact YP | exact hsd | exact hfq)) (k := ?_)
      refine r_istore hm rfl (k := ?_)
      refine r_iload_n hm rfl (k := ?_)
      refine r_iconst hm rfl (k := ?_)
      refine r_icmp_ne (t := 48) hm rfl rfl (fun c37 => ?_) (fun c37 => ?_)
      · obtain ⟨ap, eap, ea0, ea1⟩ : ∃ ap, (if 0 ≤ fq to.toNat - pc then fq to.toNat - pc else -(fq to.toNat - pc)) = ap ∧ (ap = 0 ↔ fq to.toNat - pc = 0) ∧ (ap = 1 ↔ fq to.toNat - pc = 1 ∨ fq to.toNat - pc = -1) := ⟨_, rfl, by split <;> omega, by split <;> omega⟩
        refine r_iload hm rfl (k := ?_)
        refine r_iload_n hm rfl (k := ?_)
        refine r_isub hm rfl (hr := (by omega)) (k := ?_)
        refine r_abs hm rfl rfl (by decide) (Nat.le_of_ble_eq_true rfl) (Nat.zero_le _) (Nat.zero_le _) (by omega) eap ?_
        refine r_istore hm rfl (k := ?_)
        refine r_iload hm rfl (k := ?_)
        refine r_if_ne (t := 64) hm rfl rfl (fun c59 => ?_) (fun c59 => ?_)
        · refine r_iload hm rfl (k := ?_)
          refine r_iconst hm rfl (k := ?_)
          refine r_icmp_ne (t := 75) hm rfl rfl (fun c67 => ?_) (fun c67 => ?_)
          · refine r_iconst hm rfl (k := ?_)
            refine r_ireturn hm rfl rfl (by rfl) (Nat.le_of_ble_eq_true rfl) (Nat.le_of_ble_eq_true rfl) ?_
            refine ⟨rfl, ?_⟩
            unfold scl
            first
              | (rw [if_pos (by omega)]; done)
              | (rw [if_neg (by omega), if_pos (by omega)]; done)
              | (rw [if_neg (by omega), if_neg (by omega), if_pos (by omega)]; done)
              | (rw [if_neg (by omega), if_neg (by omega), if_neg (by omega), if_pos (by omega)]; done)
              | (rw [if_neg (by omega), if_neg (by omega), if_neg (by omega), if_neg (by omega), if_pos (by omega)]; done)
              | (rw [if_neg (by omega), if_neg (by omega), if_neg (by omega), if_neg (by omega), if_neg (by omega)]; done)
          · refine r_bipush hm rfl (k := ?_)
            refine r_goto (t := 76) hm rfl (k := ?_)
            refine r_ireturn hm rfl rfl (by rfl) (Nat.le_of_ble_eq_true rfl) (Nat.le_of_ble_eq_true rfl) ?_
            refine ⟨rfl, ?_⟩
            unfold scl
            first
              | (rw [if_pos (by omega)]; done)
              | (rw [if_neg (by omega), if_pos (by omega)]; done)
              | (rw [if_neg (by omega), if_neg (by omega), if_pos (by omega)]; done)
              | (rw [if_neg (by omega), if_neg (by omega), if_neg (by omega), if_pos (by omega)]; done)
              | (rw [if_neg (by omega), if_neg (by omega), if_neg (by omega), if_neg (by omega), if_pos (by omega)]; done)
              | (rw [if_neg (by omega), if_neg (by omega), if_neg (by omega), if_neg (by omega), if_neg (by omega)]; done)
        · refine r_iconst hm rfl (k := ?_)
          refine r_ireturn hm rfl rfl (by rfl) (Nat.le_of_ble_eq_true rfl) (Nat.le_of_ble_eq_true rfl) ?_
          refine ⟨rfl, ?_⟩
          unfold scl
          first
            | (rw [if_pos (by omega)]; done)
            | (rw [if_neg (by omega), if_pos (by omega)]; done)
            | (rw [if_neg (by omega), if_neg (by omega), if_pos (by omega)]; done)
            | (rw [if_neg (by omega), if_neg (by omega), if_neg (by omega), if_pos (by omega)]; done)
            | (rw [if_neg (by omega), if_neg (by omega), if_neg (by omega), if_neg (by omega), if_pos (by omega)]; done)
            | (rw [if_neg (by omega), if_neg (by omega), if_neg (by omega), if_neg (by omega), if_neg (by omega)]; done)
      · refine r_iload hm rfl (k := ?_)
        refine r_calls (j2 := 43) hm rfl rfl rfl rfl rfl rfl (Nat.le_of_ble_eq_true rfl) (Nat.le_of_ble_eq_true rfl) rfl ⟨Nat.le_of_ble_eq_true rfl, Nat.le_of_ble_eq_true rfl, Nat.le_of_ble_eq_true rfl, Nat.le_of_ble_eq_true rfl, Nat.le_of_ble_eq_true rfl⟩ rfl (c_figures (by omega) (by omega)) (fun v9 h9 p9 => ?_)
        obtain ⟨e1, e2⟩ := p9
        subst e2
        replace e1 := e1.symm
        subst e1
        have hfg := fgs_rng (fq to.toNat)
        change RN 80 45 _ _ _ 0 0 _
        dsimp only [Option.toList, List.cons_append, List.nil_append]
        refine r_iconst hm rfl (k := ?_)
        refine r_iadd hm rfl (hr := (by omega)) (k := ?_)
        refine r_ireturn hm rfl rfl (by rfl) (Nat.le_of_ble_eq_true rfl) (Nat.le_of_ble_eq_true rfl) ?_
        refine ⟨rfl, ?_⟩
        unfold scl
        first
          | (rw [if_pos (by omega)]; done)
          | (rw [if_neg (by omega), if_pos (by omega)]; done)
          | (rw [if_neg (by omega), if_neg (by omega), if_pos (by omega)]; done)
          | (rw [if_neg (by omega), if_neg (by omega), if_neg (by omega), if_pos (by omega)]; done)
          | (rw [if_neg (by omega), if_neg (by omega), if_neg (by omega), if_neg (by omega), if_pos (by omega)]; done)
          | (rw [if_neg (by omega), if_neg (by omega), if_neg (by omega), if_neg (by omega), if_neg (by omega)]; done)
    · have hsd := hSd to.toNat (by omega)
      refine r_aload_n hm rfl (k := ?_)
      refine r_getR (hm := hm) (hf := rfl) (hd := rfl) (hs := (by first | assumption | exact Z0 | exact Z14 | exact Z17 | exact Z20 | exact Z21 | exact Z22 | exact Z23 | exact Z24 | exact G1 | exact G8 | fail | fail | fail | fail | exact ZP | exact ZQ)) (hv := (by first | assumption | exact W0 | exact W1 | exact K0 | exact Y2 | exact YP | exact hsd | exact hfq)) (k := ?_)
      refine r_getR (hm := hm) (hf := rfl) (hd := rfl) (hs := (by first | assumption | exact Z0 | exact Z14 | exact Z17 | exact Z20 | exact Z21 | exact Z22 | exact Z23 | exact Z24 | exact G1 | exact G8 | fail | fail | fail | fail | exact ZP | exact ZQ)) (hv := (by first | assumption | exact W0 | exact W1 | exact K0 | exact Y2 | exact YP | exact hsd | exact hfq)) (k := ?_)
      refine r_iload_n hm rfl (k := ?_)
      refine r_iald (hm := hm) (hf := rfl) (hs := (by first | assumption | exact Z0 | exact Z14 | exact Z17 | exact Z20 | exact Z21 | exact Z22 | exact Z23 | exact Z24 | exact G1 | exact G8 | fail | fail | fail | fail | exact ZP | exact ZQ)) (kk := to.toNat) (hi := by omega) (hn := (by omega)) (hv := (by first | assumption | exact W0 | exact W1 | exact K0 | exact Y2 | exact YP | exact hsd | exact hfq)) (k := ?_)
      refine r_ireturn hm rfl rfl (by rfl) (Nat.le_of_ble_eq_true rfl) (Nat.le_of_ble_eq_true rfl) ?_
      refine ⟨rfl, ?_⟩
      unfold scl
      first
        | (rw [if_pos (by omega)]; done)
        | (rw [if_neg (by omega), if_pos (by omega)]; done)
        | (rw [if_neg (by omega), if_neg (by omega), if_pos (by omega)]; done)
        | (rw [if_neg (by omega), if_neg (by omega), if_neg (by omega), if_pos (by omega)]; done)
        | (rw [if_neg (by omega), if_neg (by omega), if_neg (by omega), if_neg (by omega), if_pos (by omega)]; done)
        | (rw [if_neg (by omega), if_neg (by omega), if_neg (by omega), if_neg (by omega), if_neg (by omega)]; done)
  · refine r_iconst hm rfl (k := ?_)
    refine r_ireturn hm rfl rfl (by rfl) (Nat.le_of_ble_eq_true rfl) (Nat.le_of_ble_eq_true rfl) ?_
    refine ⟨rfl, ?_⟩
    unfold scl
    first
      | (rw [if_pos (by omega)]; done)
      | (rw [if_neg (by omega), if_pos (by omega)]; done)
      | (rw [if_neg (by omega), if_neg (by omega), if_pos (by omega)]; done)
      | (rw [if_neg (by omega), if_neg (by omega), if_neg (by omega), if_pos (by omega)]; done)
      | (rw [if_neg (by omega), if_neg (by omega), if_neg (by omega), if_neg (by omega), if_pos (by omega)]; done)
      | (rw [if_neg (by omega), if_neg (by omega), if_neg (by omega), if_neg (by omega), if_neg (by omega)]; done)
