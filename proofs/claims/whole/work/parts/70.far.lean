/-! far: the class -/
def secN (x : Tx) (i : Nat) : Nat := (nSec x i + 1).toNat
theorem secN_eq {x : Tx} (hok : okTx x) {i : Nat} (hi : i < x.1) : (secN x i : Int) = nSec x i + 1 ∧ secN x i < 61 := by
  have h := nSec_lt hok hi
  have h60 := hok.1
  unfold secN
  omega
def aFar (S : St) (i j : Int) : Int := if (0 ≤ i ∧ i < (S.1.1 : Int)) ∧ (0 ≤ j ∧ j < (S.1.1 : Int)) then dsN (edg S.1) (secN S.1 i.toNat) (secN S.1 j.toNat) 62 0 else -1001
theorem InvC.sl {L : Nat} {h h2 : Hp} {S : St} (I : InvC L h S) (p : SL h h2) : InvC L h2 S := I.fr (p.gg I.1) (fun a k _ => by rw [p.2.2]) (fun a k _ => by rw [p.2.1])
theorem FxC.sl {h h2 : Hp} (p : SL h h2) : FxC h h2 := fun a k _ => by rw [p.2.1]
set_option maxRecDepth 8000 in
theorem c_far {L : Nat} {h : Hp} {S : St} (I : InvC L h S) (ok : okS S) {i j9 : Int} : RN 108 0 [some (.inr (.inr (some (28)))), some (.inl i), some (.inl j9)] [] h 0 0 (fun v h2 => InvC L h2 S ∧ FxC h h2 ∧ v = some (.inl (aFar S i j9))) := by
  have hm : mrec 108 = some nM108 := rfl
  obtain ⟨g, C, hR, hV, hK, hG, hSt, hL, hB, hFl⟩ := id I
  have hok := ok.1
  have ht : isT 29 := Or.inl rfl
  obtain ⟨T1, T2, T3, T4, T5, T6, T7⟩ := g.tx ht
  obtain ⟨I0, I1, I2, I3, I4, J0, J1, J2, F0, F1, F2, F3, F4, P0, P1, P2⟩ := hR.use g ht
  obtain ⟨R1, R2, R3, R4, R5, R6, R7⟩ := id hR
  have n60 := hok.1
  have g1 := g
  refine r_aload_n hm rfl (k := ?_)
  refine r_getR (hm := hm) (hf := rfl) (hd := rfl) (hs := (by first | assumption | exact (g1.1 _).trans rfl | exact I1 _ (by omega) | exact I2 _ (by omega) | exact I3 _ (by omega) | exact I4 _ (by omega))) (hv := (by first | assumption | exact g1.2 _ _ _ rfl | exact nQ | exact nQ2)) (k := ?_)
  refine r_iload_n hm rfl (k := ?_)
  refine r_callv (j2 := 22) hm rfl rfl rfl rfl rfl rfl (by first | assumption | exact (g1.1 _).trans rfl | exact I1 _ (by omega) | exact I2 _ (by omega) | exact I3 _ (by omega) | exact I4 _ (by omega)) (Nat.le_of_ble_eq_true rfl) (Nat.le_of_ble_eq_true rfl) rfl ⟨Nat.le_of_ble_eq_true rfl, Nat.le_of_ble_eq_true rfl, Nat.le_of_ble_eq_true rfl, Nat.le_of_ble_eq_true rfl, Nat.le_of_ble_eq_true rfl⟩ rfl (c_has g ht hR) (fun v9 h9 p9 => ?_)
  obtain ⟨e1, e2⟩ := p9
  subst e2
  replace e1 := e1.symm
  subst e1
  obtain ⟨b9, eb9, hb9⟩ := ite01 (p := 0 ≤ i ∧ i < (S.1.1 : Int))
  rw [eb9]
  change RN 108 8 _ _ _ 0 0 _
  dsimp only [Option.toList, List.cons_append, List.nil_append]
  refine r_if_eq (t := 22) hm rfl rfl (fun c8 => ?_) (fun c8 => ?_)
  · refine r_sipush hm rfl (k := ?_)
    refine r_ireturn hm rfl rfl (by rfl) (Nat.le_of_ble_eq_true rfl) (Nat.le_of_ble_eq_true rfl) ?_
    refine ⟨I, FxC.refl, ?_⟩
    unfold aFar
    rw [if_neg (by omega)]
  · refine r_aload_n hm rfl (k := ?_)
    refine r_getR (hm := hm) (hf := rfl) (hd := rfl) (hs := (by first | assumption | exact (g1.1 _).trans rfl | exact I1 _ (by omega) | exact I2 _ (by omega) | exact I3 _ (by omega) | exact I4 _ (by omega))) (hv := (by first | assumption | exact g1.2 _ _ _ rfl | exact nQ | exact nQ2)) (k := ?_)
    refine r_iload_n hm rfl (k := ?_)
    refine r_callv (j2 := 22) hm rfl rfl rfl rfl rfl rfl (by first | assumption | exact (g1.1 _).trans rfl | exact I1 _ (by omega) | exact I2 _ (by omega) | exact I3 _ (by omega) | exact I4 _ (by omega)) (Nat.le_of_ble_eq_true rfl) (Nat.le_of_ble_eq_true rfl) rfl ⟨Nat.le_of_ble_eq_true rfl, Nat.le_of_ble_eq_true rfl, Nat.le_of_ble_eq_true rfl, Nat.le_of_ble_eq_true rfl, Nat.le_of_ble_eq_true rfl⟩ rfl (c_has g ht hR) (fun v9 h9 p9 => ?_)
    obtain ⟨e1, e2⟩ := p9
    subst e2
    replace e1 := e1.symm
    subst e1
    obtain ⟨b8, eb8, hb8⟩ := ite01 (p := 0 ≤ j9 ∧ j9 < (S.1.1 : Int))
    rw [eb8]
    change RN 108 19 _ _ _ 0 0 _
    dsimp only [Option.toList, List.cons_append, List.nil_append]
    refine r_if_ne (t := 26) hm rfl rfl (fun c19 => ?_) (fun c19 => ?_)
    · obtain ⟨q, rfl⟩ := Int.eq_ofNat_of_zero_le (show 0 ≤ i by omega)
      obtain ⟨q2, rfl⟩ := Int.eq_ofNat_of_zero_le (show 0 ≤ j9 by omega)
      refine r_aload_n hm rfl (k := ?_)
      refine r_getR (hm := hm) (hf := rfl) (hd := rfl) (hs := (by first | assumption | exact (g1.1 _).trans rfl | exact I1 _ (by omega) | exact I2 _ (by omega) | exact I3 _ (by omega) | exact I4 _ (by omega))) (hv := (by first | assumption | exact g1.2 _ _ _ rfl | exact nQ | exact nQ2)) (k := ?_)
      refine r_aload_n hm rfl (k := ?_)
      refine r_getR (hm := hm) (hf := rfl) (hd := rfl) (hs := (by first | assumption | exact (g1.1 _).trans rfl | exact I1 _ (by omega) | exact I2 _ (by omega) | exact I3 _ (by omega) | exact I4 _ (by omega))) (hv := (by first | assumption | exact g1.2 _ _ _ rfl | exact nQ | exact nQ2)) (k := ?_)
      refine r_aload_n hm rfl (k := ?_)
      refine r_callv (j2 := 32) hm rfl rfl rfl rfl rfl rfl (by first | assumption | exact (g1.1 _).trans rfl | exact I1 _ (by omega) | exact I2 _ (by omega) | exact I3 _ (by omega) | exact I4 _ (by omega)) (Nat.le_of_ble_eq_true rfl) (Nat.le_of_ble_eq_true rfl) rfl ⟨Nat.le_of_ble_eq_true rfl, Nat.le_of_ble_eq_true rfl, Nat.le_of_ble_eq_true rfl, Nat.le_of_ble_eq_true rfl, Nat.le_of_ble_eq_true rfl⟩ rfl (c_freshNumbers I ok) (fun v9 hN p9 => ?_)
      obtain ⟨SN, nN, e1⟩ := p9
      subst e1
      replace g1 := SN.gg g
      have IN : InvC L hN S := I.sm SN (fun a k z => by unfold regN at z; unfold idle; omega)
      have fN : FxC h hN := FxC.sm SN (fun a k z => by unfold regN at z; omega)
      have qJ := c_join g1 IN.2.2.1 hok nN
      change RN 108 38 _ _ _ 0 0 _
      dsimp only [Option.toList, List.cons_append, List.nil_append]
      refine r_callv (j2 := 109) hm rfl rfl rfl rfl rfl rfl (by first | assumption | exact (g1.1 _).trans rfl | exact I1 _ (by omega) | exact I2 _ (by omega) | exact I3 _ (by omega) | exact I4 _ (by omega)) (Nat.le_of_ble_eq_true rfl) (Nat.le_of_ble_eq_true rfl) rfl ⟨Nat.le_of_ble_eq_true rfl, Nat.le_of_ble_eq_true rfl, Nat.le_of_ble_eq_true rfl, Nat.le_of_ble_eq_true rfl, Nat.le_of_ble_eq_true rfl⟩ rfl (qJ) (fun v9 hJ p9 => ?_)
      obtain ⟨SJ, eX, eY, e1⟩ := p9
      subst e1
      replace g1 := SJ.gg g1
      have IJ := IN.sl SJ
      obtain ⟨s1, s2⟩ := secN_eq hok (i := q) (by omega)
      obtain ⟨s3, s4⟩ := secN_eq hok (i := q2) (by omega)
      have nQ := (congrFun (congrFun SJ.2.1 276) q).trans (nN q (by omega)).1
      have nQ2 := (congrFun (congrFun SJ.2.1 276) q2).trans (nN q2 (by omega)).1
      have qF := c_fewestCalls (src := secN S.1 q) (goal := secN S.1 q2) (e := edg S.1) g1 s2 s4 eX
      rw [show (secN S.1 q : Int) - 1 = nSec S.1 q by omega, show (secN S.1 q2 : Int) - 1 = nSec S.1 q2 by omega] at qF
      change RN 108 41 _ _ _ 0 0 _
      dsimp only [Option.toList, List.nil_append]
      refine r_aload_n hm rfl (k := ?_)
      refine r_getR (hm := hm) (hf := rfl) (hd := rfl) (hs := (by first | assumption | exact (g1.1 _).trans rfl | exact I1 _ (by omega) | exact I2 _ (by omega) | exact I3 _ (by omega) | exact I4 _ (by omega))) (hv := (by first | assumption | exact g1.2 _ _ _ rfl | exact nQ | exact nQ2)) (k := ?_)
      refine r_aload_n hm rfl (k := ?_)
      refine r_getR (hm := hm) (hf := rfl) (hd := rfl) (hs := (by first | assumption | exact (g1.1 _).trans rfl | exact I1 _ (by omega) | exact I2 _ (by omega) | exact I3 _ (by omega) | exact I4 _ (by omega))) (hv := (by first | assumption | exact g1.2 _ _ _ rfl | exact nQ | exact nQ2)) (k := ?_)
      refine r_getR (hm := hm) (hf := rfl) (hd := rfl) (hs := (by first | assumption | exact (g1.1 _).trans rfl | exact I1 _ (by omega) | exact I2 _ (by omega) | exact I3 _ (by omega) | exact I4 _ (by omega))) (hv := (by first | assumption | exact g1.2 _ _ _ rfl | exact nQ | exact nQ2)) (k := ?_)
      refine r_iload_n hm rfl (k := ?_)
      refine r_iald (hm := hm) (hf := rfl) (hs := (by first | assumption | exact (g1.1 _).trans rfl | exact I1 _ (by omega) | exact I2 _ (by omega) | exact I3 _ (by omega) | exact I4 _ (by omega))) (kk := q) (hi := by omega) (hn := (by omega)) (hv := (by first | assumption | exact g1.2 _ _ _ rfl | exact nQ | exact nQ2)) (k := ?_)
      refine r_aload_n hm rfl (k := ?_)
      refine r_getR (hm := hm) (hf := rfl) (hd := rfl) (hs := (by first | assumption | exact (g1.1 _).trans rfl | exact I1 _ (by omega) | exact I2 _ (by omega) | exact I3 _ (by omega) | exact I4 _ (by omega))) (hv := (by first | assumption | exact g1.2 _ _ _ rfl | exact nQ | exact nQ2)) (k := ?_)
      refine r_getR (hm := hm) (hf := rfl) (hd := rfl) (hs := (by first | assumption | exact (g1.1 _).trans rfl | exact I1 _ (by omega) | exact I2 _ (by omega) | exact I3 _ (by omega) | exact I4 _ (by omega))) (hv := (by first | assumption | exact g1.2 _ _ _ rfl | exact nQ | exact nQ2)) (k := ?_)
      refine r_iload_n hm rfl (k := ?_)
      refine r_iald (hm := hm) (hf := rfl) (hs := (by first | assumption | exact (g1.1 _).trans rfl | exact I1 _ (by omega) | exact I2 _ (by omega) | exact I3 _ (by omega) | exact I4 _ (by omega))) (kk := q2) (hi := by omega) (hn := (by omega)) (hv := (by first | assumption | exact g1.2 _ _ _ rfl | exact nQ | exact nQ2)) (k := ?_)
      refine r_callv (j2 := 112) hm rfl rfl rfl rfl rfl rfl (by first | assumption | exact (g1.1 _).trans rfl | exact I1 _ (by omega) | exact I2 _ (by omega) | exact I3 _ (by omega) | exact I4 _ (by omega)) (Nat.le_of_ble_eq_true rfl) (Nat.le_of_ble_eq_true rfl) rfl ⟨Nat.le_of_ble_eq_true rfl, Nat.le_of_ble_eq_true rfl, Nat.le_of_ble_eq_true rfl, Nat.le_of_ble_eq_true rfl, Nat.le_of_ble_eq_true rfl⟩ rfl (qF) (fun v9 h9 p9 => ?_)
      obtain ⟨e1, e2⟩ := p9
      subst e2
      replace e1 := e1.symm
      subst e1
      change RN 108 66 _ _ _ 0 0 _
      dsimp only [Option.toList, List.cons_append, List.nil_append]
      refine r_ireturn hm rfl rfl (by rfl) (Nat.le_of_ble_eq_true rfl) (Nat.le_of_ble_eq_true rfl) ?_
      refine ⟨IJ, fN.trans (FxC.sl SJ), ?_⟩
      unfold aFar
      rw [if_pos (by omega), Int.toNat_natCast, Int.toNat_natCast]
    · refine r_sipush hm rfl (k := ?_)
      refine r_ireturn hm rfl rfl (by rfl) (Nat.le_of_ble_eq_true rfl) (Nat.le_of_ble_eq_true rfl) ?_
      refine ⟨I, FxC.refl, ?_⟩
      unfold aFar
      rw [if_neg (by omega)]
