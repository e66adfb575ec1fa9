/-! questions: answers, and the class -/
theorem ite01 {p : Prop} [Decidable p] : ∃ b : Int, (if p then (1 : Int) else 0) = b ∧ ((p ∧ b = 1) ∨ (¬ p ∧ b = 0)) := by
  by_cases e : p
  · exact ⟨1, if_pos e, Or.inl ⟨e, rfl⟩⟩
  · exact ⟨0, if_neg e, Or.inr ⟨e, rfl⟩⟩
def aAbout (S : St) (i w : Int) : Int := if ¬ (0 ≤ i ∧ i < (S.1.1 : Int)) then -1001 else if w = 0 then S.1.2.1 0 i.toNat else if w = 1 then S.1.2.1 1 i.toNat else if w = 2 then S.1.2.1 2 i.toNat else if w = 3 then S.1.2.1 3 i.toNat else if w = 4 then S.1.2.1 4 i.toNat else if w = 5 then nSec S.1 i.toNat else if w = 6 then nSaid S.1 i.toNat else if w = 7 then nOwn S.1 i.toNat else -1002
def aNumber (S : St) (i k : Int) : Int := if ¬ (0 ≤ i ∧ i < (S.1.1 : Int)) then -1001 else if ¬ (1 ≤ k ∧ k ≤ 4) then -1002 else nRow S.1 i.toNat (k.toNat - 1)
def aTold (S : St) (i k w : Int) : Int := if ¬ (0 ≤ i ∧ i < (S.1.1 : Int)) then -1001 else if ¬ (0 ≤ k ∧ k < S.1.2.1 4 i.toNat) then -1001 else if w = 0 then S.1.2.2.1 0 i.toNat k.toNat else if w = 1 then S.1.2.2.1 1 i.toNat k.toNat else if w = 2 then S.1.2.2.1 2 i.toNat k.toNat else if w = 3 then mnt S.1 i.toNat k.toNat else if w = 4 then (ltR S.1 (S.1.2.2.2 0) (fin S.1 (S.1.2.2.2 0))) i.toNat k.toNat else if w = 5 then (ppf S.1 (S.1.2.2.2 0) (ltR S.1 (S.1.2.2.2 0) (fin S.1 (S.1.2.2.2 0)))) i.toNat k.toNat else if w = 6 then (loi S.1 (ltR S.1 (S.1.2.2.2 0) (fin S.1 (S.1.2.2.2 0))) i.toNat k.toNat : Int) else if w = 7 then nct S.1 (ppf S.1 (S.1.2.2.2 0) (ltR S.1 (S.1.2.2.2 0) (fin S.1 (S.1.2.2.2 0)))) i.toNat k.toNat else -1002
def cpk (x : Tx) (kd : Int) : Int := sm (fun i => sm (fun k => if x.2.2.1 0 i k = kd then (1 : Int) else 0) 0 (x.2.1 4 i).toNat) 0 x.1
def cvn (x : Tx) : Int := sm (fun i => sm (fun k => if x.2.2.1 0 i k = 1 ∧ mnt x i k = -1 then (1 : Int) else 0) 0 (x.2.1 4 i).toNat) 0 x.1
def ctw (x : Tx) : Int := sm (fun m => if 1 < sm (fun i => if x.2.1 3 i = (m : Int) then (1 : Int) else 0) 0 x.1 then (1 : Int) else 0) 0 100
def clo (x : Tx) : Int := sm (fun i => if (x.2.1 1 i = 2 ∨ x.2.1 1 i = 3) ∧ fcl x i = -1 then (1 : Int) else 0) 0 x.1
def cla (x : Tx) : Int := sm (fun i => if (x.2.1 1 i = 2 ∨ x.2.1 1 i = 3) ∧ (i : Int) < fcl x i then (1 : Int) else 0) 0 x.1
def aCount (S : St) (w : Int) : Int := if w = 0 then (S.1.1 : Int) else if w = 1 then (S.2.2.2.1 : Int) else if w = 2 then sm (S.1.2.1 4) 0 S.1.1 else if w = 3 then cpk S.1 1 else if w = 4 then cvn S.1 else if w = 5 then ctw S.1 else if w = 6 then clo S.1 else if w = 7 then cla S.1 else if w = 8 then (S.2.2.2.2.1 : Int) else if w = 9 then cpk S.1 2 else -1002
def aSet (S : St) (w : Int) : Int := if w = 0 then ocm S.1 (S.1.2.2.2 0) (fin S.1 (S.1.2.2.2 0)) else if w = 1 then (fin S.1 (S.1.2.2.2 0) : Int) else if w = 2 then prd S.1 (S.1.2.2.2 0) (fin S.1 (S.1.2.2.2 0)) else if w = 3 then pgs S.1 (S.1.2.2.2 0) (fin S.1 (S.1.2.2.2 0)) else if w = 4 then (psf S.1 (S.1.2.2.2 0) (ltR S.1 (S.1.2.2.2 0) (fin S.1 (S.1.2.2.2 0)))).2.1 (psf S.1 (S.1.2.2.2 0) (ltR S.1 (S.1.2.2.2 0) (fin S.1 (S.1.2.2.2 0)))).1 else -1002
def aPage (S : St) (i w : Int) : Int := if ¬ (0 ≤ i ∧ i < (S.1.1 : Int)) then -1001 else if w = 0 then (psf S.1 (S.1.2.2.2 0) (ltR S.1 (S.1.2.2.2 0) (fin S.1 (S.1.2.2.2 0)))).2.2.1 i.toNat else if w = 1 then lnc S.1 (ltR S.1 (S.1.2.2.2 0) (fin S.1 (S.1.2.2.2 0))) i.toNat else if w = 2 then (psf S.1 (S.1.2.2.2 0) (ltR S.1 (S.1.2.2.2 0) (fin S.1 (S.1.2.2.2 0)))).2.2.2.1 i.toNat else -1002
def aUsed (S : St) (p : Int) : Int := if 1 ≤ p ∧ p ≤ pgs S.1 (S.1.2.2.2 0) (fin S.1 (S.1.2.2.2 0)) then (psf S.1 (S.1.2.2.2 0) (ltR S.1 (S.1.2.2.2 0) (fin S.1 (S.1.2.2.2 0)))).2.1 p.toNat else -1001
def aRound (S : St) (r : Int) : Int := if 0 ≤ r ∧ r ≤ (fin S.1 (S.1.2.2.2 0) : Int) then pgs S.1 (S.1.2.2.2 0) r.toNat else -1002
def aList (S : St) (i k : Int) : Int := if ¬ (0 ≤ i ∧ i < (S.1.1 : Int)) then -1001 else if ¬ 4 ≤ S.1.2.1 1 i.toNat then -1003 else nth (lstB S.1 i.toNat) k 0 S.1.1 0
def aMeans (S : St) (m : Int) : Int := if 0 ≤ m ∧ m ≤ 99 then fi (fun k => S.1.2.1 3 k == m) 0 S.1.1 else -1002
def ccl (x : Tx) (i : Nat) : Int := sm (fun q => sm (fun k => if x.2.2.1 0 q k = 1 ∧ x.2.2.1 1 q k = mtm x i then (1 : Int) else 0) 0 (x.2.1 4 q).toNat) 0 x.1
def aCalled (S : St) (i : Int) : Int := if ¬ (0 ≤ i ∧ i < (S.1.1 : Int)) then -1001 else ccl S.1 i.toNat
def aStyle (S : St) (w : Int) : Int := if 0 ≤ w ∧ w ≤ 12 then S.1.2.2.2 w.toNat else -1002
/-- the best height so far and its pages, heights from a on, d of them -/
def bst (x : Tx) : Nat → Nat → Int × Int → Int × Int
  | 0, _, s => s
  | d + 1, a, s => bst x d (a + 1) (if ocm x a (fin x a) = 0 ∧ (s.2 = -1 ∨ pgs x a (fin x a) < s.2) then ((a : Int), pgs x a (fin x a)) else s)
def aBest (S : St) (a b w : Int) : Int := if ¬ (8 ≤ a ∧ b ≤ 60 ∧ a ≤ b ∧ b - a < 16 ∧ 0 ≤ w ∧ w ≤ 1) then -1002 else if w = 0 then (bst S.1 (b - a + 1).toNat a.toNat (-1, -1)).1 else (bst S.1 (b - a + 1).toNat a.toNat (-1, -1)).2
theorem c_freshNumbers {L : Nat} {h : Hp} {S : St} (I : InvC L h S) (ok : okS S) : RN 32 0 [some (.inr (.inr (some (28))))] [] h 0 0 (fun v h2 => Sm (regN 275) h h2 ∧ NmR h2 275 S.1 S.1.1 ∧ v = some (.inr (.inr (some 275)))) := by
  have hm : mrec 32 = some nM32 := rfl
  obtain ⟨g, C, hR, hV, hK, hG, hSt, hL, hB, hFl⟩ := id I
  have hok := ok.1
  have ht : isT 29 := Or.inl rfl
  obtain ⟨T1, T2, T3, T4, T5, T6, T7⟩ := g.tx ht
  obtain ⟨I0, I1, I2, I3, I4, J0, J1, J2, F0, F1, F2, F3, F4, P0, P1, P2⟩ := hR.use g ht
  obtain ⟨R1, R2, R3, R4, R5, R6, R7⟩ := id hR
  have n60 := hok.1
  have g1 := g
  refine r_aload_n hm rfl (k := ?_)
  refine r_getR (hm := hm) (hf := rfl) (hd := rfl) (hs := (by first | assumption | exact (g1.1 _).trans rfl | exact I1 _ (by omega) | exact I2 _ (by omega) | exact I3 _ (by omega) | exact I4 _ (by omega))) (hv := (by first | assumption | exact g1.2 _ _ _ rfl | exact I0 _ (by omega) | exact J0 _ (by omega) | exact J1 _ (by omega) | exact J2 _ (by omega) | exact F0 _ (by omega) | exact F1 _ (by omega) | exact F2 _ (by omega) | exact F3 _ (by omega) | exact F4 _ (by omega) | exact P0 _ _ (by omega) (by omega) | exact P1 _ _ (by omega) (by omega) | exact P2 _ _ (by omega) (by omega))) (k := ?_)
  refine r_aload_n hm rfl (k := ?_)
  refine r_getR (hm := hm) (hf := rfl) (hd := rfl) (hs := (by first | assumption | exact (g1.1 _).trans rfl | exact I1 _ (by omega) | exact I2 _ (by omega) | exact I3 _ (by omega) | exact I4 _ (by omega))) (hv := (by first | assumption | exact g1.2 _ _ _ rfl | exact I0 _ (by omega) | exact J0 _ (by omega) | exact J1 _ (by omega) | exact J2 _ (by omega) | exact F0 _ (by omega) | exact F1 _ (by omega) | exact F2 _ (by omega) | exact F3 _ (by omega) | exact F4 _ (by omega) | exact P0 _ _ (by omega) (by omega) | exact P1 _ _ (by omega) (by omega) | exact P2 _ _ (by omega) (by omega))) (k := ?_)
  refine r_callv (j2 := 33) hm rfl rfl rfl rfl rfl rfl (by first | assumption | exact (g1.1 _).trans rfl | exact I1 _ (by omega) | exact I2 _ (by omega) | exact I3 _ (by omega) | exact I4 _ (by omega)) (Nat.le_of_ble_eq_true rfl) (Nat.le_of_ble_eq_true rfl) rfl ⟨Nat.le_of_ble_eq_true rfl, Nat.le_of_ble_eq_true rfl, Nat.le_of_ble_eq_true rfl, Nat.le_of_ble_eq_true rfl, Nat.le_of_ble_eq_true rfl⟩ rfl (c_countAll g (Or.inl rfl) ht hR C hok) (fun v9 h9 p9 => ?_)
  obtain ⟨SA, nA, e1⟩ := p9
  subst e1
  replace g1 := SA.gg g
  change RN 32 11 _ _ _ 0 0 _
  dsimp only [Option.toList, List.nil_append]
  refine r_aload_n hm rfl (k := ?_)
  refine r_getR (hm := hm) (hf := rfl) (hd := rfl) (hs := (by first | assumption | exact (g1.1 _).trans rfl | exact I1 _ (by omega) | exact I2 _ (by omega) | exact I3 _ (by omega) | exact I4 _ (by omega))) (hv := (by first | assumption | exact g1.2 _ _ _ rfl | exact I0 _ (by omega) | exact J0 _ (by omega) | exact J1 _ (by omega) | exact J2 _ (by omega) | exact F0 _ (by omega) | exact F1 _ (by omega) | exact F2 _ (by omega) | exact F3 _ (by omega) | exact F4 _ (by omega) | exact P0 _ _ (by omega) (by omega) | exact P1 _ _ (by omega) (by omega) | exact P2 _ _ (by omega) (by omega))) (k := ?_)
  refine r_areturn hm rfl rfl (Nat.le_of_ble_eq_true rfl) (Nat.le_of_ble_eq_true rfl) ?_
  exact ⟨SA, nA, rfl⟩
theorem c_freshSetting {L : Nat} {h : Hp} {S : St} (I : InvC L h S) (ok : okS S) : RN 52 0 [some (.inr (.inr (some (28))))] [] h 0 0 (fun v h2 => InvC L h2 S ∧ FxC h h2 ∧ SetC h2 294 29 S.1 (S.1.2.2.2 0) ∧ v = some (.inr (.inr (some 294)))) := by
  have hm : mrec 52 = some nM52 := rfl
  obtain ⟨g, C, hR, hV, hK, hG, hSt, hL, hB, hFl⟩ := id I
  have hok := ok.1
  have ht : isT 29 := Or.inl rfl
  obtain ⟨T1, T2, T3, T4, T5, T6, T7⟩ := g.tx ht
  obtain ⟨I0, I1, I2, I3, I4, J0, J1, J2, F0, F1, F2, F3, F4, P0, P1, P2⟩ := hR.use g ht
  obtain ⟨R1, R2, R3, R4, R5, R6, R7⟩ := id hR
  have n60 := hok.1
  have g1 := g
  have hs10 : h.2.1 28 10 = h.2.1 28 10 := rfl
  refine r_aload_n hm rfl (k := ?_)
  refine r_getI (hm := hm) (hf := rfl) (hd := rfl) (hs := (by first | assumption | exact (g1.1 _).trans rfl | exact I1 _ (by omega) | exact I2 _ (by omega) | exact I3 _ (by omega) | exact I4 _ (by omega))) (hv := (by first | assumption | exact g1.2 _ _ _ rfl | exact hs10)) (k := ?_)
  refine r_if_ne (t := 33) hm rfl rfl (fun c4 => ?_) (fun c4 => ?_)
  · refine r_aload_n hm rfl (k := ?_)
    refine r_getR (hm := hm) (hf := rfl) (hd := rfl) (hs := (by first | assumption | exact (g1.1 _).trans rfl | exact I1 _ (by omega) | exact I2 _ (by omega) | exact I3 _ (by omega) | exact I4 _ (by omega))) (hv := (by first | assumption | exact g1.2 _ _ _ rfl | exact hs10)) (k := ?_)
    refine r_areturn hm rfl rfl (Nat.le_of_ble_eq_true rfl) (Nat.le_of_ble_eq_true rfl) ?_
    exact ⟨I, FxC.refl, (by rcases hSt with e | e; omega; exact e.2), rfl⟩
  · have hs10 := hSt
    refine r_aload_n hm rfl (k := ?_)
    refine r_getR (hm := hm) (hf := rfl) (hd := rfl) (hs := (by first | assumption | exact (g1.1 _).trans rfl | exact I1 _ (by omega) | exact I2 _ (by omega) | exact I3 _ (by omega) | exact I4 _ (by omega))) (hv := (by first | assumption | exact g1.2 _ _ _ rfl | exact hs10)) (k := ?_)
    refine r_aload_n hm rfl (k := ?_)
    refine r_getR (hm := hm) (hf := rfl) (hd := rfl) (hs := (by first | assumption | exact (g1.1 _).trans rfl | exact I1 _ (by omega) | exact I2 _ (by omega) | exact I3 _ (by omega) | exact I4 _ (by omega))) (hv := (by first | assumption | exact g1.2 _ _ _ rfl | exact hs10)) (k := ?_)
    refine r_aload_n hm rfl (k := ?_)
    refine r_getR (hm := hm) (hf := rfl) (hd := rfl) (hs := (by first | assumption | exact (g1.1 _).trans rfl | exact I1 _ (by omega) | exact I2 _ (by omega) | exact I3 _ (by omega) | exact I4 _ (by omega))) (hv := (by first | assumption | exact g1.2 _ _ _ rfl | exact hs10)) (k := ?_)
    refine r_getR (hm := hm) (hf := rfl) (hd := rfl) (hs := (by first | assumption | exact (g1.1 _).trans rfl | exact I1 _ (by omega) | exact I2 _ (by omega) | exact I3 _ (by omega) | exact I4 _ (by omega))) (hv := (by first | assumption | exact g1.2 _ _ _ rfl | exact hs10)) (k := ?_)
    refine r_callv (j2 := 53) hm rfl rfl rfl rfl rfl rfl (by first | assumption | exact (g1.1 _).trans rfl | exact I1 _ (by omega) | exact I2 _ (by omega) | exact I3 _ (by omega) | exact I4 _ (by omega)) (Nat.le_of_ble_eq_true rfl) (Nat.le_of_ble_eq_true rfl) rfl ⟨Nat.le_of_ble_eq_true rfl, Nat.le_of_ble_eq_true rfl, Nat.le_of_ble_eq_true rfl, Nat.le_of_ble_eq_true rfl, Nat.le_of_ble_eq_true rfl⟩ rfl (c_height (s := 31) T3 T4 T7) (fun v9 h9 p9 => ?_)
    obtain ⟨e1, e2⟩ := p9
    subst e2
    replace e1 := e1.symm
    subst e1
    rw [R7 0 (by omega)]
    change RN 52 25 _ _ _ 0 0 _
    dsimp only [Option.toList, List.cons_append, List.nil_append]
    refine r_callv (j2 := 54) hm rfl rfl rfl rfl rfl rfl (by first | assumption | exact (g1.1 _).trans rfl | exact I1 _ (by omega) | exact I2 _ (by omega) | exact I3 _ (by omega) | exact I4 _ (by omega)) (Nat.le_of_ble_eq_true rfl) (Nat.le_of_ble_eq_true rfl) rfl ⟨Nat.le_of_ble_eq_true rfl, Nat.le_of_ble_eq_true rfl, Nat.le_of_ble_eq_true rfl, Nat.le_of_ble_eq_true rfl, Nat.le_of_ble_eq_true rfl⟩ rfl (c_settle g C (Or.inl rfl) ht hR hok (by have := hok.2.2.2.2; unfold okStl at this; omega)) (fun v9 h9 p9 => ?_)
    obtain ⟨SA, yA, e1⟩ := p9
    subst e1
    replace g1 := SA.gg (putR_gg g (rfl : rff 294 8 = none))
    change RN 52 28 _ _ _ 0 0 _
    dsimp only [Option.toList, List.nil_append]
    refine r_aload_n hm rfl (k := ?_)
    refine r_iconst hm rfl (k := ?_)
    refine r_putI (hm := hm) (hf := rfl) (hd := rfl) (hs := (by first | assumption | exact (g1.1 _).trans rfl | exact I1 _ (by omega) | exact I2 _ (by omega) | exact I3 _ (by omega) | exact I4 _ (by omega))) (hfin := Or.inl rfl) (hz := fun _ => by omega) (k := ?_)
    refine r_aload_n hm rfl (k := ?_)
    refine r_getR (hm := hm) (hf := rfl) (hd := rfl) (hs := (by first | assumption | exact (g1.1 _).trans rfl | exact I1 _ (by omega) | exact I2 _ (by omega) | exact I3 _ (by omega) | exact I4 _ (by omega))) (hv := (by first | assumption | exact g1.2 _ _ _ rfl | exact hs10)) (k := ?_)
    refine r_areturn hm rfl rfl (Nat.le_of_ble_eq_true rfl) (Nat.le_of_ble_eq_true rfl) ?_
    have eR : ∀ a k, a ≠ 294 → (putI h9 28 10 1).2.2.1 a k = h.2.2.1 a k := fun a k e => by show h9.2.2.1 a k = _; rw [SA.2.1]; exact putR_ne (by omega)
    have eI : ∀ a k, (¬ regS 294 a k ∧ ¬ (a = 28 ∧ k = 10)) → (putI h9 28 10 1).2.1 a k = h.2.1 a k := fun a k e => by rw [putI_ne (by omega)]; exact SA.2.2 a k e.1
    have yB : SetC (putI h9 28 10 1) 294 29 S.1 (S.1.2.2.2 0) := yA.fr rfl (fun a k e1 e2 => putI_ne (by omega))
    refine ⟨⟨g1, C.fr (fun a k e => eR a k (by omega)) (fun a k e => eI a k (by unfold regS; omega)), hR.fr (fun i => eR _ _ (by omega)) (fun a k e1 e2 => eI a k (by unfold regS; omega)), fun v hv => (hV v hv).fr (fun i => eR _ _ (by omega)) (fun a k e1 e2 => eI a k (by unfold regS; omega)), fun v hv => (eI _ _ (by unfold regS; omega)).trans (hK v hv), (eI _ _ (by unfold regS; omega)).trans hG, Or.inr ⟨putI_eq, yB⟩, (eI _ _ (by unfold regS; omega)).trans hL, fun k hk => (eI _ _ (by unfold regS; omega)).trans (hB k hk), (eI _ _ (by unfold regS; omega)).trans hFl⟩, fun a k e => eI a k (by unfold regS; omega), yB, rfl⟩
set_option maxRecDepth 8000 in
theorem c_about {L : Nat} {h : Hp} {S : St} (I : InvC L h S) (ok : okS S) {i w : Int} : RN 31 0 [some (.inr (.inr (some (28)))), some (.inl i), some (.inl w), none] [] h 0 0 (fun v h2 => InvC L h2 S ∧ FxC h h2 ∧ v = some (.inl (aAbout S i w))) := by
  have hm : mrec 31 = some nM31 := rfl
  obtain ⟨g, C, hR, hV, hK, hG, hSt, hL, hB, hFl⟩ := id I
  have hok := ok.1
  have ht : isT 29 := Or.inl rfl
  obtain ⟨T1, T2, T3, T4, T5, T6, T7⟩ := g.tx ht
  obtain ⟨I0, I1, I2, I3, I4, J0, J1, J2, F0, F1, F2, F3, F4, P0, P1, P2⟩ := hR.use g ht
  obtain ⟨R1, R2, R3, R4, R5, R6, R7⟩ := id hR
  have n60 := hok.1
  have g1 := g
  refine r_aload_n hm rfl (k := ?_)
  refine r_getR (hm := hm) (hf := rfl) (hd := rfl) (hs := (by first | assumption | exact (g1.1 _).trans rfl | exact I1 _ (by omega) | exact I2 _ (by omega) | exact I3 _ (by omega) | exact I4 _ (by omega))) (hv := (by first | assumption | exact g1.2 _ _ _ rfl | exact I0 _ (by omega) | exact J0 _ (by omega) | exact J1 _ (by omega) | exact J2 _ (by omega) | exact F0 _ (by omega) | exact F1 _ (by omega) | exact F2 _ (by omega) | exact F3 _ (by omega) | exact F4 _ (by omega) | exact P0 _ _ (by omega) (by omega) | exact P1 _ _ (by omega) (by omega) | exact P2 _ _ (by omega) (by omega) | exact (nN _ (by omega)).1 | exact (nN _ (by omega)).2.1 | exact (nN _ (by omega)).2.2.1)) (k := ?_)
  refine r_iload_n hm rfl (k := ?_)
  refine r_callv (j2 := 22) hm rfl rfl rfl rfl rfl rfl (by first | assumption | exact (g1.1 _).trans rfl | exact I1 _ (by omega) | exact I2 _ (by omega) | exact I3 _ (by omega) | exact I4 _ (by omega)) (Nat.le_of_ble_eq_true rfl) (Nat.le_of_ble_eq_true rfl) rfl ⟨Nat.le_of_ble_eq_true rfl, Nat.le_of_ble_eq_true rfl, Nat.le_of_ble_eq_true rfl, Nat.le_of_ble_eq_true rfl, Nat.le_of_ble_eq_true rfl⟩ rfl (c_has g ht hR) (fun v9 h9 p9 => ?_)
  obtain ⟨e1, e2⟩ := p9
  subst e2
  replace e1 := e1.symm
  subst e1
  obtain ⟨b9, eb9, hb9⟩ := ite01 (p := 0 ≤ i ∧ i < (S.1.1 : Int))
  rw [eb9]
  change RN 31 8 _ _ _ 0 0 _
  dsimp only [Option.toList, List.cons_append, List.nil_append]
  refine r_if_ne (t := 15) hm rfl rfl (fun c8 => ?_) (fun c8 => ?_)
  · obtain ⟨q, rfl⟩ := Int.eq_ofNat_of_zero_le (show 0 ≤ i by omega)
    refine r_aload_n hm rfl (k := ?_)
    refine r_getR (hm := hm) (hf := rfl) (hd := rfl) (hs := (by first | assumption | exact (g1.1 _).trans rfl | exact I1 _ (by omega) | exact I2 _ (by omega) | exact I3 _ (by omega) | exact I4 _ (by omega))) (hv := (by first | assumption | exact g1.2 _ _ _ rfl | exact I0 _ (by omega) | exact J0 _ (by omega) | exact J1 _ (by omega) | exact J2 _ (by omega) | exact F0 _ (by omega) | exact F1 _ (by omega) | exact F2 _ (by omega) | exact F3 _ (by omega) | exact F4 _ (by omega) | exact P0 _ _ (by omega) (by omega) | exact P1 _ _ (by omega) (by omega) | exact P2 _ _ (by omega) (by omega) | exact (nN _ (by omega)).1 | exact (nN _ (by omega)).2.1 | exact (nN _ (by omega)).2.2.1)) (k := ?_)
    refine r_getR (hm := hm) (hf := rfl) (hd := rfl) (hs := (by first | assumption | exact (g1.1 _).trans rfl | exact I1 _ (by omega) | exact I2 _ (by omega) | exact I3 _ (by omega) | exact I4 _ (by omega))) (hv := (by first | assumption | exact g1.2 _ _ _ rfl | exact I0 _ (by omega) | exact J0 _ (by omega) | exact J1 _ (by omega) | exact J2 _ (by omega) | exact F0 _ (by omega) | exact F1 _ (by omega) | exact F2 _ (by omega) | exact F3 _ (by omega) | exact F4 _ (by omega) | exact P0 _ _ (by omega) (by omega) | exact P1 _ _ (by omega) (by omega) | exact P2 _ _ (by omega) (by omega) | exact (nN _ (by omega)).1 | exact (nN _ (by omega)).2.1 | exact (nN _ (by omega)).2.2.1)) (k := ?_)
    refine r_iload_n hm rfl (k := ?_)
    refine r_aald (hm := hm) (hf := rfl) (hs := (by first | assumption | exact (g1.1 _).trans rfl | exact I1 _ (by omega) | exact I2 _ (by omega) | exact I3 _ (by omega) | exact I4 _ (by omega))) (hkd := by decide) (hi := rfl) (hn := (by omega)) (hv := (by first | assumption | exact g1.2 _ _ _ rfl | exact I0 _ (by omega) | exact J0 _ (by omega) | exact J1 _ (by omega) | exact J2 _ (by omega) | exact F0 _ (by omega) | exact F1 _ (by omega) | exact F2 _ (by omega) | exact F3 _ (by omega) | exact F4 _ (by omega) | exact P0 _ _ (by omega) (by omega) | exact P1 _ _ (by omega) (by omega) | exact P2 _ _ (by omega) (by omega) | exact (nN _ (by omega)).1 | exact (nN _ (by omega)).2.1 | exact (nN _ (by omega)).2.2.1)) (k := ?_)
    refine r_astore_n hm rfl (k := ?_)
    refine r_iload_n hm rfl (k := ?_)
    by_cases s26_0 : w = 0
    · refine r_tsw hm rfl 72 (fun q => by omega) (fun q => ⟨46, by rw [s26_0]; rfl, rfl⟩) ?_
      refine r_aload_n hm rfl (k := ?_)
      refine r_getI (hm := hm) (hf := rfl) (hd := rfl) (hs := (by first | assumption | exact (g1.1 _).trans rfl | exact I1 _ (by omega) | exact I2 _ (by omega) | exact I3 _ (by omega) | exact I4 _ (by omega))) (hv := (by first | assumption | exact g1.2 _ _ _ rfl | exact I0 _ (by omega) | exact J0 _ (by omega) | exact J1 _ (by omega) | exact J2 _ (by omega) | exact F0 _ (by omega) | exact F1 _ (by omega) | exact F2 _ (by omega) | exact F3 _ (by omega) | exact F4 _ (by omega) | exact P0 _ _ (by omega) (by omega) | exact P1 _ _ (by omega) (by omega) | exact P2 _ _ (by omega) (by omega) | exact (nN _ (by omega)).1 | exact (nN _ (by omega)).2.1 | exact (nN _ (by omega)).2.2.1)) (k := ?_)
      refine r_ireturn hm rfl rfl (by rfl) (Nat.le_of_ble_eq_true rfl) (Nat.le_of_ble_eq_true rfl) ?_
      refine ⟨I, FxC.refl, ?_⟩
      unfold aAbout
      rw [if_neg (by omega), if_pos (by omega)]
      try rfl
    by_cases s26_1 : w = 1
    · refine r_tsw hm rfl 77 (fun q => by omega) (fun q => ⟨51, by rw [s26_1]; rfl, rfl⟩) ?_
      refine r_aload_n hm rfl (k := ?_)
      refine r_getI (hm := hm) (hf := rfl) (hd := rfl) (hs := (by first | assumption | exact (g1.1 _).trans rfl | exact I1 _ (by omega) | exact I2 _ (by omega) | exact I3 _ (by omega) | exact I4 _ (by omega))) (hv := (by first | assumption | exact g1.2 _ _ _ rfl | exact I0 _ (by omega) | exact J0 _ (by omega) | exact J1 _ (by omega) | exact J2 _ (by omega) | exact F0 _ (by omega) | exact F1 _ (by omega) | exact F2 _ (by omega) | exact F3 _ (by omega) | exact F4 _ (by omega) | exact P0 _ _ (by omega) (by omega) | exact P1 _ _ (by omega) (by omega) | exact P2 _ _ (by omega) (by omega) | exact (nN _ (by omega)).1 | exact (nN _ (by omega)).2.1 | exact (nN _ (by omega)).2.2.1)) (k := ?_)
      refine r_ireturn hm rfl rfl (by rfl) (Nat.le_of_ble_eq_true rfl) (Nat.le_of_ble_eq_true rfl) ?_
      refine ⟨I, FxC.refl, ?_⟩
      unfold aAbout
      rw [if_neg (by omega), if_neg (by omega), if_pos (by omega)]
      try rfl
    by_cases s26_2 : w = 2
    · refine r_tsw hm rfl 82 (fun q => by omega) (fun q => ⟨56, by rw [s26_2]; rfl, rfl⟩) ?_
      refine r_aload_n hm rfl (k := ?_)
      refine r_getI (hm := hm) (hf := rfl) (hd := rfl) (hs := (by first | assumption | exact (g1.1 _).trans rfl | exact I1 _ (by omega) | exact I2 _ (by omega) | exact I3 _ (by omega) | exact I4 _ (by omega))) (hv := (by first | assumption | exact g1.2 _ _ _ rfl | exact I0 _ (by omega) | exact J0 _ (by omega) | exact J1 _ (by omega) | exact J2 _ (by omega) | exact F0 _ (by omega) | exact F1 _ (by omega) | exact F2 _ (by omega) | exact F3 _ (by omega) | exact F4 _ (by omega) | exact P0 _ _ (by omega) (by omega) | exact P1 _ _ (by omega) (by omega) | exact P2 _ _ (by omega) (by omega) | exact (nN _ (by omega)).1 | exact (nN _ (by omega)).2.1 | exact (nN _ (by omega)).2.2.1)) (k := ?_)
      refine r_ireturn hm rfl rfl (by rfl) (Nat.le_of_ble_eq_true rfl) (Nat.le_of_ble_eq_true rfl) ?_
      refine ⟨I, FxC.refl, ?_⟩
      unfold aAbout
      rw [if_neg (by omega), if_neg (by omega), if_neg (by omega), if_pos (by omega)]
      try rfl
    by_cases s26_3 : w = 3
    · refine r_tsw hm rfl 87 (fun q => by omega) (fun q => ⟨61, by rw [s26_3]; rfl, rfl⟩) ?_
      refine r_aload_n hm rfl (k := ?_)
      refine r_getI (hm := hm) (hf := rfl) (hd := rfl) (hs := (by first | assumption | exact (g1.1 _).trans rfl | exact I1 _ (by omega) | exact I2 _ (by omega) | exact I3 _ (by omega) | exact I4 _ (by omega))) (hv := (by first | assumption | exact g1.2 _ _ _ rfl | exact I0 _ (by omega) | exact J0 _ (by omega) | exact J1 _ (by omega) | exact J2 _ (by omega) | exact F0 _ (by omega) | exact F1 _ (by omega) | exact F2 _ (by omega) | exact F3 _ (by omega) | exact F4 _ (by omega) | exact P0 _ _ (by omega) (by omega) | exact P1 _ _ (by omega) (by omega) | exact P2 _ _ (by omega) (by omega) | exact (nN _ (by omega)).1 | exact (nN _ (by omega)).2.1 | exact (nN _ (by omega)).2.2.1)) (k := ?_)
      refine r_ireturn hm rfl rfl (by rfl) (Nat.le_of_ble_eq_true rfl) (Nat.le_of_ble_eq_true rfl) ?_
      refine ⟨I, FxC.refl, ?_⟩
      unfold aAbout
      rw [if_neg (by omega), if_neg (by omega), if_neg (by omega), if_neg (by omega), if_pos (by omega)]
      try rfl
    by_cases s26_4 : w = 4
    · refine r_tsw hm rfl 92 (fun q => by omega) (fun q => ⟨66, by rw [s26_4]; rfl, rfl⟩) ?_
      refine r_aload_n hm rfl (k := ?_)
      refine r_getI (hm := hm) (hf := rfl) (hd := rfl) (hs := (by first | assumption | exact (g1.1 _).trans rfl | exact I1 _ (by omega) | exact I2 _ (by omega) | exact I3 _ (by omega) | exact I4 _ (by omega))) (hv := (by first | assumption | exact g1.2 _ _ _ rfl | exact I0 _ (by omega) | exact J0 _ (by omega) | exact J1 _ (by omega) | exact J2 _ (by omega) | exact F0 _ (by omega) | exact F1 _ (by omega) | exact F2 _ (by omega) | exact F3 _ (by omega) | exact F4 _ (by omega) | exact P0 _ _ (by omega) (by omega) | exact P1 _ _ (by omega) (by omega) | exact P2 _ _ (by omega) (by omega) | exact (nN _ (by omega)).1 | exact (nN _ (by omega)).2.1 | exact (nN _ (by omega)).2.2.1)) (k := ?_)
      refine r_ireturn hm rfl rfl (by rfl) (Nat.le_of_ble_eq_true rfl) (Nat.le_of_ble_eq_true rfl) ?_
      refine ⟨I, FxC.refl, ?_⟩
      unfold aAbout
      rw [if_neg (by omega), if_neg (by omega), if_neg (by omega), if_neg (by omega), if_neg (by omega), if_pos (by omega)]
      try rfl
    by_cases s26_5 : w = 5
    · refine r_tsw hm rfl 97 (fun q => by omega) (fun q => ⟨71, by rw [s26_5]; rfl, rfl⟩) ?_
      refine r_aload_n hm rfl (k := ?_)
      refine r_callv (j2 := 32) hm rfl rfl rfl rfl rfl rfl (by first | assumption | exact (g1.1 _).trans rfl | exact I1 _ (by omega) | exact I2 _ (by omega) | exact I3 _ (by omega) | exact I4 _ (by omega)) (Nat.le_of_ble_eq_true rfl) (Nat.le_of_ble_eq_true rfl) rfl ⟨Nat.le_of_ble_eq_true rfl, Nat.le_of_ble_eq_true rfl, Nat.le_of_ble_eq_true rfl, Nat.le_of_ble_eq_true rfl, Nat.le_of_ble_eq_true rfl⟩ rfl (c_freshNumbers I ok) (fun v9 h9 p9 => ?_)
      obtain ⟨SN, nN, e1⟩ := p9
      subst e1
      replace g1 := SN.gg g
      change RN 31 101 _ _ _ 0 0 _
      dsimp only [Option.toList, List.cons_append, List.nil_append]
      refine r_getR (hm := hm) (hf := rfl) (hd := rfl) (hs := (by first | assumption | exact (g1.1 _).trans rfl | exact I1 _ (by omega) | exact I2 _ (by omega) | exact I3 _ (by omega) | exact I4 _ (by omega))) (hv := (by first | assumption | exact g1.2 _ _ _ rfl | exact I0 _ (by omega) | exact J0 _ (by omega) | exact J1 _ (by omega) | exact J2 _ (by omega) | exact F0 _ (by omega) | exact F1 _ (by omega) | exact F2 _ (by omega) | exact F3 _ (by omega) | exact F4 _ (by omega) | exact P0 _ _ (by omega) (by omega) | exact P1 _ _ (by omega) (by omega) | exact P2 _ _ (by omega) (by omega) | exact (nN _ (by omega)).1 | exact (nN _ (by omega)).2.1 | exact (nN _ (by omega)).2.2.1)) (k := ?_)
      refine r_iload_n hm rfl (k := ?_)
      refine r_iald (hm := hm) (hf := rfl) (hs := (by first | assumption | exact (g1.1 _).trans rfl | exact I1 _ (by omega) | exact I2 _ (by omega) | exact I3 _ (by omega) | exact I4 _ (by omega))) (hi := rfl) (hn := (by omega)) (hv := (by first | assumption | exact g1.2 _ _ _ rfl | exact I0 _ (by omega) | exact J0 _ (by omega) | exact J1 _ (by omega) | exact J2 _ (by omega) | exact F0 _ (by omega) | exact F1 _ (by omega) | exact F2 _ (by omega) | exact F3 _ (by omega) | exact F4 _ (by omega) | exact P0 _ _ (by omega) (by omega) | exact P1 _ _ (by omega) (by omega) | exact P2 _ _ (by omega) (by omega) | exact (nN _ (by omega)).1 | exact (nN _ (by omega)).2.1 | exact (nN _ (by omega)).2.2.1)) (k := ?_)
      refine r_ireturn hm rfl rfl (by rfl) (Nat.le_of_ble_eq_true rfl) (Nat.le_of_ble_eq_true rfl) ?_
      refine ⟨I.sm SN (fun a k z => by unfold regN at z; unfold idle; omega), FxC.sm SN (fun a k z => by unfold regN at z; omega), ?_⟩
      unfold aAbout
      rw [if_neg (by omega), if_neg (by omega), if_neg (by omega), if_neg (by omega), if_neg (by omega), if_neg (by omega), if_pos (by omega)]
      try rfl
    by_cases s26_6 : w = 6
    · refine r_tsw hm rfl 107 (fun q => by omega) (fun q => ⟨81, by rw [s26_6]; rfl, rfl⟩) ?_
      refine r_aload_n hm rfl (k := ?_)
      refine r_callv (j2 := 32) hm rfl rfl rfl rfl rfl rfl (by first | assumption | exact (g1.1 _).trans rfl | exact I1 _ (by omega) | exact I2 _ (by omega) | exact I3 _ (by omega) | exact I4 _ (by omega)) (Nat.le_of_ble_eq_true rfl) (Nat.le_of_ble_eq_true rfl) rfl ⟨Nat.le_of_ble_eq_true rfl, Nat.le_of_ble_eq_true rfl, Nat.le_of_ble_eq_true rfl, Nat.le_of_ble_eq_true rfl, Nat.le_of_ble_eq_true rfl⟩ rfl (c_freshNumbers I ok) (fun v9 h9 p9 => ?_)
      obtain ⟨SN, nN, e1⟩ := p9
      subst e1
      replace g1 := SN.gg g
      change RN 31 111 _ _ _ 0 0 _
      dsimp only [Option.toList, List.cons_append, List.nil_append]
      refine r_getR (hm := hm) (hf := rfl) (hd := rfl) (hs := (by first | assumption | exact (g1.1 _).trans rfl | exact I1 _ (by omega) | exact I2 _ (by omega) | exact I3 _ (by omega) | exact I4 _ (by omega))) (hv := (by first | assumption | exact g1.2 _ _ _ rfl | exact I0 _ (by omega) | exact J0 _ (by omega) | exact J1 _ (by omega) | exact J2 _ (by omega) | exact F0 _ (by omega) | exact F1 _ (by omega) | exact F2 _ (by omega) | exact F3 _ (by omega) | exact F4 _ (by omega) | exact P0 _ _ (by omega) (by omega) | exact P1 _ _ (by omega) (by omega) | exact P2 _ _ (by omega) (by omega) | exact (nN _ (by omega)).1 | exact (nN _ (by omega)).2.1 | exact (nN _ (by omega)).2.2.1)) (k := ?_)
      refine r_iload_n hm rfl (k := ?_)
      refine r_iald (hm := hm) (hf := rfl) (hs := (by first | assumption | exact (g1.1 _).trans rfl | exact I1 _ (by omega) | exact I2 _ (by omega) | exact I3 _ (by omega) | exact I4 _ (by omega))) (hi := rfl) (hn := (by omega)) (hv := (by first | assumption | exact g1.2 _ _ _ rfl | exact I0 _ (by omega) | exact J0 _ (by omega) | exact J1 _ (by omega) | exact J2 _ (by omega) | exact F0 _ (by omega) | exact F1 _ (by omega) | exact F2 _ (by omega) | exact F3 _ (by omega) | exact F4 _ (by omega) | exact P0 _ _ (by omega) (by omega) | exact P1 _ _ (by omega) (by omega) | exact P2 _ _ (by omega) (by omega) | exact (nN _ (by omega)).1 | exact (nN _ (by omega)).2.1 | exact (nN _ (by omega)).2.2.1)) (k := ?_)
      refine r_ireturn hm rfl rfl (by rfl) (Nat.le_of_ble_eq_true rfl) (Nat.le_of_ble_eq_true rfl) ?_
      refine ⟨I.sm SN (fun a k z => by unfold regN at z; unfold idle; omega), FxC.sm SN (fun a k z => by unfold regN at z; omega), ?_⟩
      unfold aAbout
      rw [if_neg (by omega), if_neg (by omega), if_neg (by omega), if_neg (by omega), if_neg (by omega), if_neg (by omega), if_neg (by omega), if_pos (by omega)]
      try rfl
    by_cases s26_7 : w = 7
    · refine r_tsw hm rfl 117 (fun q => by omega) (fun q => ⟨91, by rw [s26_7]; rfl, rfl⟩) ?_
      refine r_aload_n hm rfl (k := ?_)
      refine r_callv (j2 := 32) hm rfl rfl rfl rfl rfl rfl (by first | assumption | exact (g1.1 _).trans rfl | exact I1 _ (by omega) | exact I2 _ (by omega) | exact I3 _ (by omega) | exact I4 _ (by omega)) (Nat.le_of_ble_eq_true rfl) (Nat.le_of_ble_eq_true rfl) rfl ⟨Nat.le_of_ble_eq_true rfl, Nat.le_of_ble_eq_true rfl, Nat.le_of_ble_eq_true rfl, Nat.le_of_ble_eq_true rfl, Nat.le_of_ble_eq_true rfl⟩ rfl (c_freshNumbers I ok) (fun v9 h9 p9 => ?_)
      obtain ⟨SN, nN, e1⟩ := p9
      subst e1
      replace g1 := SN.gg g
      change RN 31 121 _ _ _ 0 0 _
      dsimp only [Option.toList, List.cons_append, List.nil_append]
      refine r_getR (hm := hm) (hf := rfl) (hd := rfl) (hs := (by first | assumption | exact (g1.1 _).trans rfl | exact I1 _ (by omega) | exact I2 _ (by omega) | exact I3 _ (by omega) | exact I4 _ (by omega))) (hv := (by first | assumption | exact g1.2 _ _ _ rfl | exact I0 _ (by omega) | exact J0 _ (by omega) | exact J1 _ (by omega) | exact J2 _ (by omega) | exact F0 _ (by omega) | exact F1 _ (by omega) | exact F2 _ (by omega) | exact F3 _ (by omega) | exact F4 _ (by omega) | exact P0 _ _ (by omega) (by omega) | exact P1 _ _ (by omega) (by omega) | exact P2 _ _ (by omega) (by omega) | exact (nN _ (by omega)).1 | exact (nN _ (by omega)).2.1 | exact (nN _ (by omega)).2.2.1)) (k := ?_)
      refine r_iload_n hm rfl (k := ?_)
      refine r_iald (hm := hm) (hf := rfl) (hs := (by first | assumption | exact (g1.1 _).trans rfl | exact I1 _ (by omega) | exact I2 _ (by omega) | exact I3 _ (by omega) | exact I4 _ (by omega))) (hi := rfl) (hn := (by omega)) (hv := (by first | assumption | exact g1.2 _ _ _ rfl | exact I0 _ (by omega) | exact J0 _ (by omega) | exact J1 _ (by omega) | exact J2 _ (by omega) | exact F0 _ (by omega) | exact F1 _ (by omega) | exact F2 _ (by omega) | exact F3 _ (by omega) | exact F4 _ (by omega) | exact P0 _ _ (by omega) (by omega) | exact P1 _ _ (by omega) (by omega) | exact P2 _ _ (by omega) (by omega) | exact (nN _ (by omega)).1 | exact (nN _ (by omega)).2.1 | exact (nN _ (by omega)).2.2.1)) (k := ?_)
      refine r_ireturn hm rfl rfl (by rfl) (Nat.le_of_ble_eq_true rfl) (Nat.le_of_ble_eq_true rfl) ?_
      refine ⟨I.sm SN (fun a k z => by unfold regN at z; unfold idle; omega), FxC.sm SN (fun a k z => by unfold regN at z; omega), ?_⟩
      unfold aAbout
      rw [if_neg (by omega), if_neg (by omega), if_neg (by omega), if_neg (by omega), if_neg (by omega), if_neg (by omega), if_neg (by omega), if_neg (by omega), if_pos (by omega)]
      try rfl
    refine r_tsw hm rfl 127 (fun q => rfl) (fun q => by exfalso; omega) ?_
    refine r_sipush hm rfl (k := ?_)
    refine r_ireturn hm rfl rfl (by rfl) (Nat.le_of_ble_eq_true rfl) (Nat.le_of_ble_eq_true rfl) ?_
    refine ⟨I, FxC.refl, ?_⟩
    unfold aAbout
    rw [if_neg (by omega), if_neg (by omega), if_neg (by omega), if_neg (by omega), if_neg (by omega), if_neg (by omega), if_neg (by omega), if_neg (by omega), if_neg (by omega)]
    try rfl
  · refine r_sipush hm rfl (k := ?_)
    refine r_ireturn hm rfl rfl (by rfl) (Nat.le_of_ble_eq_true rfl) (Nat.le_of_ble_eq_true rfl) ?_
    refine ⟨I, FxC.refl, ?_⟩
    unfold aAbout
    rw [if_pos (by omega)]
set_option maxRecDepth 8000 in
theorem c_number {L : Nat} {h : Hp} {S : St} (I : InvC L h S) (ok : okS S) {i kI : Int} : RN 47 0 [some (.inr (.inr (some (28)))), some (.inl i), some (.inl kI)] [] h 0 0 (fun v h2 => InvC L h2 S ∧ FxC h h2 ∧ v = some (.inl (aNumber S i kI))) := by
  have hm : mrec 47 = some nM47 := rfl
  obtain ⟨g, C, hR, hV, hK, hG, hSt, hL, hB, hFl⟩ := id I
  have hok := ok.1
  have ht : isT 29 := Or.inl rfl
  obtain ⟨T1, T2, T3, T4, T5, T6, T7⟩ := g.tx ht
  obtain ⟨I0, I1, I2, I3, I4, J0, J1, J2, F0, F1, F2, F3, F4, P0, P1, P2⟩ := hR.use g ht
  obtain ⟨R1, R2, R3, R4, R5, R6, R7⟩ := id hR
  have n60 := hok.1
  have g1 := g
  refine r_aload_n hm rfl (k := ?_)
  refine r_getR (hm := hm) (hf := rfl) (hd := rfl) (hs := (by first | assumption | exact (g1.1 _).trans rfl | exact I1 _ (by omega) | exact I2 _ (by omega) | exact I3 _ (by omega) | exact I4 _ (by omega))) (hv := (by first | assumption | exact g1.2 _ _ _ rfl | exact I0 _ (by omega) | exact J0 _ (by omega) | exact J1 _ (by omega) | exact J2 _ (by omega) | exact F0 _ (by omega) | exact F1 _ (by omega) | exact F2 _ (by omega) | exact F3 _ (by omega) | exact F4 _ (by omega) | exact P0 _ _ (by omega) (by omega) | exact P1 _ _ (by omega) (by omega) | exact P2 _ _ (by omega) (by omega))) (k := ?_)
  refine r_iload_n hm rfl (k := ?_)
  refine r_callv (j2 := 22) hm rfl rfl rfl rfl rfl rfl (by first | assumption | exact (g1.1 _).trans rfl | exact I1 _ (by omega) | exact I2 _ (by omega) | exact I3 _ (by omega) | exact I4 _ (by omega)) (Nat.le_of_ble_eq_true rfl) (Nat.le_of_ble_eq_true rfl) rfl ⟨Nat.le_of_ble_eq_true rfl, Nat.le_of_ble_eq_true rfl, Nat.le_of_ble_eq_true rfl, Nat.le_of_ble_eq_true rfl, Nat.le_of_ble_eq_true rfl⟩ rfl (c_has g ht hR) (fun v9 h9 p9 => ?_)
  obtain ⟨e1, e2⟩ := p9
  subst e2
  replace e1 := e1.symm
  subst e1
  obtain ⟨b9, eb9, hb9⟩ := ite01 (p := 0 ≤ i ∧ i < (S.1.1 : Int))
  rw [eb9]
  change RN 47 8 _ _ _ 0 0 _
  dsimp only [Option.toList, List.cons_append, List.nil_append]
  refine r_if_ne (t := 15) hm rfl rfl (fun c8 => ?_) (fun c8 => ?_)
  · obtain ⟨q, rfl⟩ := Int.eq_ofNat_of_zero_le (show 0 ≤ i by omega)
    refine r_iload_n hm rfl (k := ?_)
    refine r_iconst hm rfl (k := ?_)
    refine r_icmp_lt (t := 25) hm rfl rfl (fun c17 => ?_) (fun c17 => ?_)
    · refine r_sipush hm rfl (k := ?_)
      refine r_ireturn hm rfl rfl (by rfl) (Nat.le_of_ble_eq_true rfl) (Nat.le_of_ble_eq_true rfl) ?_
      refine ⟨I, FxC.refl, ?_⟩
      unfold aNumber
      rw [if_neg (by omega), if_pos (by omega)]
    · refine r_iload_n hm rfl (k := ?_)
      refine r_iconst hm rfl (k := ?_)
      refine r_icmp_le (t := 29) hm rfl rfl (fun c22 => ?_) (fun c22 => ?_)
      · obtain ⟨kn, rfl⟩ := Int.eq_ofNat_of_zero_le (show 0 ≤ kI by omega)
        refine r_aload_n hm rfl (k := ?_)
        refine r_callv (j2 := 32) hm rfl rfl rfl rfl rfl rfl (by first | assumption | exact (g1.1 _).trans rfl | exact I1 _ (by omega) | exact I2 _ (by omega) | exact I3 _ (by omega) | exact I4 _ (by omega)) (Nat.le_of_ble_eq_true rfl) (Nat.le_of_ble_eq_true rfl) rfl ⟨Nat.le_of_ble_eq_true rfl, Nat.le_of_ble_eq_true rfl, Nat.le_of_ble_eq_true rfl, Nat.le_of_ble_eq_true rfl, Nat.le_of_ble_eq_true rfl⟩ rfl (c_freshNumbers I ok) (fun v9 h9 p9 => ?_)
        obtain ⟨SN, nN, e1⟩ := p9
        subst e1
        replace g1 := SN.gg g
        change RN 47 33 _ _ _ 0 0 _
        dsimp only [Option.toList, List.cons_append, List.nil_append]
        refine r_iload_n hm rfl (k := ?_)
        refine r_iload_n hm rfl (k := ?_)
        refine r_callv (j2 := 48) hm rfl rfl rfl rfl rfl rfl (by first | assumption | exact (g1.1 _).trans rfl | exact I1 _ (by omega) | exact I2 _ (by omega) | exact I3 _ (by omega) | exact I4 _ (by omega)) (Nat.le_of_ble_eq_true rfl) (Nat.le_of_ble_eq_true rfl) rfl ⟨Nat.le_of_ble_eq_true rfl, Nat.le_of_ble_eq_true rfl, Nat.le_of_ble_eq_true rfl, Nat.le_of_ble_eq_true rfl, Nat.le_of_ble_eq_true rfl⟩ rfl (c_countOf g1 (Or.inl rfl) (i := q) (k := kn) (by omega) (by omega) (by omega)) (fun v9 h9 p9 => ?_)
        obtain ⟨e1, e2⟩ := p9
        subst e2
        replace e1 := e1.symm
        subst e1
        change RN 47 38 _ _ _ 0 0 _
        dsimp only [Option.toList, List.cons_append, List.nil_append]
        refine r_ireturn hm rfl rfl (by rfl) (Nat.le_of_ble_eq_true rfl) (Nat.le_of_ble_eq_true rfl) ?_
        refine ⟨I.sm SN (fun a k z => by unfold regN at z; unfold idle; omega), FxC.sm SN (fun a k z => by unfold regN at z; omega), ?_⟩
        unfold aNumber
        rw [if_neg (by omega), if_neg (by omega), Int.toNat_natCast, Int.toNat_natCast, (nN q (by omega)).2.2.2 _ (by omega)]
      · refine r_sipush hm rfl (k := ?_)
        refine r_ireturn hm rfl rfl (by rfl) (Nat.le_of_ble_eq_true rfl) (Nat.le_of_ble_eq_true rfl) ?_
        refine ⟨I, FxC.refl, ?_⟩
        unfold aNumber
        rw [if_neg (by omega), if_pos (by omega)]
  · refine r_sipush hm rfl (k := ?_)
    refine r_ireturn hm rfl rfl (by rfl) (Nat.le_of_ble_eq_true rfl) (Nat.le_of_ble_eq_true rfl) ?_
    refine ⟨I, FxC.refl, ?_⟩
    unfold aNumber
    rw [if_pos (by omega)]
set_option maxRecDepth 8000 in
theorem c_told {L : Nat} {h : Hp} {S : St} (I : InvC L h S) (ok : okS S) {i kI w : Int} : RN 49 0 [some (.inr (.inr (some (28)))), some (.inl i), some (.inl kI), some (.inl w), none] [] h 0 0 (fun v h2 => InvC L h2 S ∧ FxC h h2 ∧ v = some (.inl (aTold S i kI w))) := by
  have hm : mrec 49 = some nM49 := rfl
  obtain ⟨g, C, hR, hV, hK, hG, hSt, hL, hB, hFl⟩ := id I
  have hok := ok.1
  have ht : isT 29 := Or.inl rfl
  obtain ⟨T1, T2, T3, T4, T5, T6, T7⟩ := g.tx ht
  obtain ⟨I0, I1, I2, I3, I4, J0, J1, J2, F0, F1, F2, F3, F4, P0, P1, P2⟩ := hR.use g ht
  obtain ⟨R1, R2, R3, R4, R5, R6, R7⟩ := id hR
  have n60 := hok.1
  have g1 := g
  refine r_aload_n hm rfl (k := ?_)
  refine r_getR (hm := hm) (hf := rfl) (hd := rfl) (hs := (by first | assumption | exact (g1.1 _).trans rfl | exact I1 _ (by omega) | exact I2 _ (by omega) | exact I3 _ (by omega) | exact I4 _ (by omega))) (hv := (by first | assumption | exact g1.2 _ _ _ rfl | exact I0 _ (by omega) | exact J0 _ (by omega) | exact J1 _ (by omega) | exact J2 _ (by omega) | exact F0 _ (by omega) | exact F1 _ (by omega) | exact F2 _ (by omega) | exact F3 _ (by omega) | exact F4 _ (by omega) | exact P0 _ _ (by omega) (by omega) | exact P1 _ _ (by omega) (by omega) | exact P2 _ _ (by omega) (by omega))) (k := ?_)
  refine r_iload_n hm rfl (k := ?_)
  refine r_callv (j2 := 22) hm rfl rfl rfl rfl rfl rfl (by first | assumption | exact (g1.1 _).trans rfl | exact I1 _ (by omega) | exact I2 _ (by omega) | exact I3 _ (by omega) | exact I4 _ (by omega)) (Nat.le_of_ble_eq_true rfl) (Nat.le_of_ble_eq_true rfl) rfl ⟨Nat.le_of_ble_eq_true rfl, Nat.le_of_ble_eq_true rfl, Nat.le_of_ble_eq_true rfl, Nat.le_of_ble_eq_true rfl, Nat.le_of_ble_eq_true rfl⟩ rfl (c_has g ht hR) (fun v9 h9 p9 => ?_)
  obtain ⟨e1, e2⟩ := p9
  subst e2
  replace e1 := e1.symm
  subst e1
  obtain ⟨b9, eb9, hb9⟩ := ite01 (p := 0 ≤ i ∧ i < (S.1.1 : Int))
  rw [eb9]
  change RN 49 8 _ _ _ 0 0 _
  dsimp only [Option.toList, List.cons_append, List.nil_append]
  refine r_if_eq (t := 31) hm rfl rfl (fun c8 => ?_) (fun c8 => ?_)
  · refine r_sipush hm rfl (k := ?_)
    refine r_ireturn hm rfl rfl (by rfl) (Nat.le_of_ble_eq_true rfl) (Nat.le_of_ble_eq_true rfl) ?_
    refine ⟨I, FxC.refl, ?_⟩
    unfold aTold
    rw [if_pos (by omega)]
  · refine r_iload_n hm rfl (k := ?_)
    refine r_if_lt (t := 31) hm rfl rfl (fun c12 => ?_) (fun c12 => ?_)
    · refine r_sipush hm rfl (k := ?_)
      refine r_ireturn hm rfl rfl (by rfl) (Nat.le_of_ble_eq_true rfl) (Nat.le_of_ble_eq_true rfl) ?_
      refine ⟨I, FxC.refl, ?_⟩
      unfold aTold
      rw [if_neg (by omega), if_pos (by first | omega | (rw [Int.toNat_natCast]; omega))]
    · obtain ⟨q, rfl⟩ := Int.eq_ofNat_of_zero_le (show 0 ≤ i by omega)
      refine r_iload_n hm rfl (k := ?_)
      refine r_aload_n hm rfl (k := ?_)
      refine r_getR (hm := hm) (hf := rfl) (hd := rfl) (hs := (by first | assumption | exact (g1.1 _).trans rfl | exact I1 _ (by omega) | exact I2 _ (by omega) | exact I3 _ (by omega) | exact I4 _ (by omega))) (hv := (by first | assumption | exact g1.2 _ _ _ rfl | exact I0 _ (by omega) | exact J0 _ (by omega) | exact J1 _ (by omega) | exact J2 _ (by omega) | exact F0 _ (by omega) | exact F1 _ (by omega) | exact F2 _ (by omega) | exact F3 _ (by omega) | exact F4 _ (by omega) | exact P0 _ _ (by omega) (by omega) | exact P1 _ _ (by omega) (by omega) | exact P2 _ _ (by omega) (by omega))) (k := ?_)
      refine r_getR (hm := hm) (hf := rfl) (hd := rfl) (hs := (by first | assumption | exact (g1.1 _).trans rfl | exact I1 _ (by omega) | exact I2 _ (by omega) | exact I3 _ (by omega) | exact I4 _ (by omega))) (hv := (by first | assumption | exact g1.2 _ _ _ rfl | exact I0 _ (by omega) | exact J0 _ (by omega) | exact J1 _ (by omega) | exact J2 _ (by omega) | exact F0 _ (by omega) | exact F1 _ (by omega) | exact F2 _ (by omega) | exact F3 _ (by omega) | exact F4 _ (by omega) | exact P0 _ _ (by omega) (by omega) | exact P1 _ _ (by omega) (by omega) | exact P2 _ _ (by omega) (by omega))) (k := ?_)
      refine r_iload_n hm rfl (k := ?_)
      refine r_aald (hm := hm) (hf := rfl) (hs := (by first | assumption | exact (g1.1 _).trans rfl | exact I1 _ (by omega) | exact I2 _ (by omega) | exact I3 _ (by omega) | exact I4 _ (by omega))) (hkd := by decide) (hi := rfl) (hn := (by omega)) (hv := (by first | assumption | exact g1.2 _ _ _ rfl | exact I0 _ (by omega) | exact J0 _ (by omega) | exact J1 _ (by omega) | exact J2 _ (by omega) | exact F0 _ (by omega) | exact F1 _ (by omega) | exact F2 _ (by omega) | exact F3 _ (by omega) | exact F4 _ (by omega) | exact P0 _ _ (by omega) (by omega) | exact P1 _ _ (by omega) (by omega) | exact P2 _ _ (by omega) (by omega))) (k := ?_)
      refine r_getI (hm := hm) (hf := rfl) (hd := rfl) (hs := (by first | assumption | exact (g1.1 _).trans rfl | exact I1 _ (by omega) | exact I2 _ (by omega) | exact I3 _ (by omega) | exact I4 _ (by omega))) (hv := (by first | assumption | exact g1.2 _ _ _ rfl | exact I0 _ (by omega) | exact J0 _ (by omega) | exact J1 _ (by omega) | exact J2 _ (by omega) | exact F0 _ (by omega) | exact F1 _ (by omega) | exact F2 _ (by omega) | exact F3 _ (by omega) | exact F4 _ (by omega) | exact P0 _ _ (by omega) (by omega) | exact P1 _ _ (by omega) (by omega) | exact P2 _ _ (by omega) (by omega))) (k := ?_)
      refine r_icmp_lt (t := 35) hm rfl rfl (fun c28 => ?_) (fun c28 => ?_)
      · obtain ⟨k, rfl⟩ := Int.eq_ofNat_of_zero_le (show 0 ≤ kI by omega)
        obtain ⟨ep, ep2⟩ := pcs_eq hok (i := q) (by omega)
        have hf := fst_le hok (q + 1) (by omega)
        have hf2 : fst S.1 (q + 1) = fst S.1 q + pcs S.1 q := rfl
        refine r_aload_n hm rfl (k := ?_)
        refine r_getR (hm := hm) (hf := rfl) (hd := rfl) (hs := (by first | assumption | exact (g1.1 _).trans rfl | exact I1 _ (by omega) | exact I2 _ (by omega) | exact I3 _ (by omega) | exact I4 _ (by omega))) (hv := (by first | assumption | exact g1.2 _ _ _ rfl | exact I0 _ (by omega) | exact J0 _ (by omega) | exact J1 _ (by omega) | exact J2 _ (by omega) | exact F0 _ (by omega) | exact F1 _ (by omega) | exact F2 _ (by omega) | exact F3 _ (by omega) | exact F4 _ (by omega) | exact P0 _ _ (by omega) (by omega) | exact P1 _ _ (by omega) (by omega) | exact P2 _ _ (by omega) (by omega))) (k := ?_)
        refine r_getR (hm := hm) (hf := rfl) (hd := rfl) (hs := (by first | assumption | exact (g1.1 _).trans rfl | exact I1 _ (by omega) | exact I2 _ (by omega) | exact I3 _ (by omega) | exact I4 _ (by omega))) (hv := (by first | assumption | exact g1.2 _ _ _ rfl | exact I0 _ (by omega) | exact J0 _ (by omega) | exact J1 _ (by omega) | exact J2 _ (by omega) | exact F0 _ (by omega) | exact F1 _ (by omega) | exact F2 _ (by omega) | exact F3 _ (by omega) | exact F4 _ (by omega) | exact P0 _ _ (by omega) (by omega) | exact P1 _ _ (by omega) (by omega) | exact P2 _ _ (by omega) (by omega))) (k := ?_)
        refine r_iload_n hm rfl (k := ?_)
        refine r_aald (hm := hm) (hf := rfl) (hs := (by first | assumption | exact (g1.1 _).trans rfl | exact I1 _ (by omega) | exact I2 _ (by omega) | exact I3 _ (by omega) | exact I4 _ (by omega))) (hkd := by decide) (hi := rfl) (hn := (by omega)) (hv := (by first | assumption | exact g1.2 _ _ _ rfl | exact I0 _ (by omega) | exact J0 _ (by omega) | exact J1 _ (by omega) | exact J2 _ (by omega) | exact F0 _ (by omega) | exact F1 _ (by omega) | exact F2 _ (by omega) | exact F3 _ (by omega) | exact F4 _ (by omega) | exact P0 _ _ (by omega) (by omega) | exact P1 _ _ (by omega) (by omega) | exact P2 _ _ (by omega) (by omega))) (k := ?_)
        refine r_astore hm rfl (k := ?_)
        refine r_iload_n hm rfl (k := ?_)
        by_cases s47_0 : w = 0
        · refine r_tsw hm rfl 92 (fun q => by omega) (fun q => ⟨45, by rw [s47_0]; rfl, rfl⟩) ?_
          refine r_aload hm rfl (k := ?_)
          refine r_getR (hm := hm) (hf := rfl) (hd := rfl) (hs := (by first | assumption | exact (g1.1 _).trans rfl | exact I1 _ (by omega) | exact I2 _ (by omega) | exact I3 _ (by omega) | exact I4 _ (by omega))) (hv := (by first | assumption | exact g1.2 _ _ _ rfl | exact I0 _ (by omega) | exact J0 _ (by omega) | exact J1 _ (by omega) | exact J2 _ (by omega) | exact F0 _ (by omega) | exact F1 _ (by omega) | exact F2 _ (by omega) | exact F3 _ (by omega) | exact F4 _ (by omega) | exact P0 _ _ (by omega) (by omega) | exact P1 _ _ (by omega) (by omega) | exact P2 _ _ (by omega) (by omega))) (k := ?_)
          refine r_iload_n hm rfl (k := ?_)
          refine r_iald (hm := hm) (hf := rfl) (hs := (by first | assumption | exact (g1.1 _).trans rfl | exact I1 _ (by omega) | exact I2 _ (by omega) | exact I3 _ (by omega) | exact I4 _ (by omega))) (hi := rfl) (hn := (by omega)) (hv := (by first | assumption | exact g1.2 _ _ _ rfl | exact I0 _ (by omega) | exact J0 _ (by omega) | exact J1 _ (by omega) | exact J2 _ (by omega) | exact F0 _ (by omega) | exact F1 _ (by omega) | exact F2 _ (by omega) | exact F3 _ (by omega) | exact F4 _ (by omega) | exact P0 _ _ (by omega) (by omega) | exact P1 _ _ (by omega) (by omega) | exact P2 _ _ (by omega) (by omega))) (k := ?_)
          refine r_ireturn hm rfl rfl (by rfl) (Nat.le_of_ble_eq_true rfl) (Nat.le_of_ble_eq_true rfl) ?_
          refine ⟨I, FxC.refl, ?_⟩
          unfold aTold
          rw [if_neg (by omega), if_neg (by rw [Int.toNat_natCast]; omega), if_pos (by omega)]
          try rfl
        by_cases s47_1 : w = 1
        · refine r_tsw hm rfl 100 (fun q => by omega) (fun q => ⟨53, by rw [s47_1]; rfl, rfl⟩) ?_
          refine r_aload hm rfl (k := ?_)
          refine r_getR (hm := hm) (hf := rfl) (hd := rfl) (hs := (by first | assumption | exact (g1.1 _).trans rfl | exact I1 _ (by omega) | exact I2 _ (by omega) | exact I3 _ (by omega) | exact I4 _ (by omega))) (hv := (by first | assumption | exact g1.2 _ _ _ rfl | exact I0 _ (by omega) | exact J0 _ (by omega) | exact J1 _ (by omega) | exact J2 _ (by omega) | exact F0 _ (by omega) | exact F1 _ (by omega) | exact F2 _ (by omega) | exact F3 _ (by omega) | exact F4 _ (by omega) | exact P0 _ _ (by omega) (by omega) | exact P1 _ _ (by omega) (by omega) | exact P2 _ _ (by omega) (by omega))) (k := ?_)
          refine r_iload_n hm rfl (k := ?_)
          refine r_iald (hm := hm) (hf := rfl) (hs := (by first | assumption | exact (g1.1 _).trans rfl | exact I1 _ (by omega) | exact I2 _ (by omega) | exact I3 _ (by omega) | exact I4 _ (by omega))) (hi := rfl) (hn := (by omega)) (hv := (by first | assumption | exact g1.2 _ _ _ rfl | exact I0 _ (by omega) | exact J0 _ (by omega) | exact J1 _ (by omega) | exact J2 _ (by omega) | exact F0 _ (by omega) | exact F1 _ (by omega) | exact F2 _ (by omega) | exact F3 _ (by omega) | exact F4 _ (by omega) | exact P0 _ _ (by omega) (by omega) | exact P1 _ _ (by omega) (by omega) | exact P2 _ _ (by omega) (by omega))) (k := ?_)
          refine r_ireturn hm rfl rfl (by rfl) (Nat.le_of_ble_eq_true rfl) (Nat.le_of_ble_eq_true rfl) ?_
          refine ⟨I, FxC.refl, ?_⟩
          unfold aTold
          rw [if_neg (by omega), if_neg (by rw [Int.toNat_natCast]; omega), if_neg (by omega), if_pos (by omega)]
          try rfl
        by_cases s47_2 : w = 2
        · refine r_tsw hm rfl 108 (fun q => by omega) (fun q => ⟨61, by rw [s47_2]; rfl, rfl⟩) ?_
          refine r_aload hm rfl (k := ?_)
          refine r_getR (hm := hm) (hf := rfl) (hd := rfl) (hs := (by first | assumption | exact (g1.1 _).trans rfl | exact I1 _ (by omega) | exact I2 _ (by omega) | exact I3 _ (by omega) | exact I4 _ (by omega))) (hv := (by first | assumption | exact g1.2 _ _ _ rfl | exact I0 _ (by omega) | exact J0 _ (by omega) | exact J1 _ (by omega) | exact J2 _ (by omega) | exact F0 _ (by omega) | exact F1 _ (by omega) | exact F2 _ (by omega) | exact F3 _ (by omega) | exact F4 _ (by omega) | exact P0 _ _ (by omega) (by omega) | exact P1 _ _ (by omega) (by omega) | exact P2 _ _ (by omega) (by omega))) (k := ?_)
          refine r_iload_n hm rfl (k := ?_)
          refine r_iald (hm := hm) (hf := rfl) (hs := (by first | assumption | exact (g1.1 _).trans rfl | exact I1 _ (by omega) | exact I2 _ (by omega) | exact I3 _ (by omega) | exact I4 _ (by omega))) (hi := rfl) (hn := (by omega)) (hv := (by first | assumption | exact g1.2 _ _ _ rfl | exact I0 _ (by omega) | exact J0 _ (by omega) | exact J1 _ (by omega) | exact J2 _ (by omega) | exact F0 _ (by omega) | exact F1 _ (by omega) | exact F2 _ (by omega) | exact F3 _ (by omega) | exact F4 _ (by omega) | exact P0 _ _ (by omega) (by omega) | exact P1 _ _ (by omega) (by omega) | exact P2 _ _ (by omega) (by omega))) (k := ?_)
          refine r_ireturn hm rfl rfl (by rfl) (Nat.le_of_ble_eq_true rfl) (Nat.le_of_ble_eq_true rfl) ?_
          refine ⟨I, FxC.refl, ?_⟩
          unfold aTold
          rw [if_neg (by omega), if_neg (by rw [Int.toNat_natCast]; omega), if_neg (by omega), if_neg (by omega), if_pos (by omega)]
          try rfl
        by_cases s47_3 : w = 3
        · refine r_tsw hm rfl 116 (fun q => by omega) (fun q => ⟨69, by rw [s47_3]; rfl, rfl⟩) ?_
          refine r_aload_n hm rfl (k := ?_)
          refine r_getR (hm := hm) (hf := rfl) (hd := rfl) (hs := (by first | assumption | exact (g1.1 _).trans rfl | exact I1 _ (by omega) | exact I2 _ (by omega) | exact I3 _ (by omega) | exact I4 _ (by omega))) (hv := (by first | assumption | exact g1.2 _ _ _ rfl | exact I0 _ (by omega) | exact J0 _ (by omega) | exact J1 _ (by omega) | exact J2 _ (by omega) | exact F0 _ (by omega) | exact F1 _ (by omega) | exact F2 _ (by omega) | exact F3 _ (by omega) | exact F4 _ (by omega) | exact P0 _ _ (by omega) (by omega) | exact P1 _ _ (by omega) (by omega) | exact P2 _ _ (by omega) (by omega))) (k := ?_)
          refine r_aload hm rfl (k := ?_)
          refine r_iload_n hm rfl (k := ?_)
          refine r_callv (j2 := 50) hm rfl rfl rfl rfl rfl rfl (by first | assumption | exact (g1.1 _).trans rfl | exact I1 _ (by omega) | exact I2 _ (by omega) | exact I3 _ (by omega) | exact I4 _ (by omega)) (Nat.le_of_ble_eq_true rfl) (Nat.le_of_ble_eq_true rfl) rfl ⟨Nat.le_of_ble_eq_true rfl, Nat.le_of_ble_eq_true rfl, Nat.le_of_ble_eq_true rfl, Nat.le_of_ble_eq_true rfl, Nat.le_of_ble_eq_true rfl⟩ rfl (c_meantBy g ht hR (i := q) (k := k) (by omega) (by omega) (by omega)) (fun v9 h9 p9 => ?_)
          obtain ⟨e1, e2⟩ := p9
          subst e2
          replace e1 := e1.symm
          subst e1
          change RN 49 126 _ _ _ 0 0 _
          dsimp only [Option.toList, List.cons_append, List.nil_append]
          refine r_ireturn hm rfl rfl (by rfl) (Nat.le_of_ble_eq_true rfl) (Nat.le_of_ble_eq_true rfl) ?_
          refine ⟨I, FxC.refl, ?_⟩
          unfold aTold
          rw [if_neg (by omega), if_neg (by rw [Int.toNat_natCast]; omega), if_neg (by omega), if_neg (by omega), if_neg (by omega), if_pos (by omega)]
          try rfl
        by_cases s47_4 : w = 4
        · refine r_tsw hm rfl 127 (fun q => by omega) (fun q => ⟨80, by rw [s47_4]; rfl, rfl⟩) ?_
          refine r_aload_n hm rfl (k := ?_)
          refine r_callv (j2 := 52) hm rfl rfl rfl rfl rfl rfl (by first | assumption | exact (g1.1 _).trans rfl | exact I1 _ (by omega) | exact I2 _ (by omega) | exact I3 _ (by omega) | exact I4 _ (by omega)) (Nat.le_of_ble_eq_true rfl) (Nat.le_of_ble_eq_true rfl) rfl ⟨Nat.le_of_ble_eq_true rfl, Nat.le_of_ble_eq_true rfl, Nat.le_of_ble_eq_true rfl, Nat.le_of_ble_eq_true rfl, Nat.le_of_ble_eq_true rfl⟩ rfl (c_freshSetting I ok) (fun v9 h9 p9 => ?_)
          obtain ⟨I2, fx, yS, e1⟩ := p9
          subst e1
          replace g1 := I2.1
          obtain ⟨y8, y9, y10, y11, y20, yP, yL, yF, yl, yn, ym, yN⟩ := id yS
          obtain ⟨⟨v5, v6, v7, v8, vus, vfp, vlp, vwr⟩, vwl⟩ := id yP
          have hlt := ltR_ok (H := S.1.2.2.2 0) hok (fin S.1 (S.1.2.2.2 0))
          have hH : 8 ≤ S.1.2.2.2 0 ∧ S.1.2.2.2 0 ≤ 60 := by have := hok.2.2.2.2; unfold okStl at this; omega
          obtain ⟨pk, pr, pw⟩ := psf_ok hok hlt hH
          have prg := pk.rng (TT_le hok (Nat.le_refl _))
          have flr := fin_le (x := S.1) (H := S.1.2.2.2 0)
          change RN 49 131 _ _ _ 0 0 _
          dsimp only [Option.toList, List.cons_append, List.nil_append]
          refine r_iload_n hm rfl (k := ?_)
          refine r_iload_n hm rfl (k := ?_)
          refine r_callv (j2 := 84) hm rfl rfl rfl rfl rfl rfl (by first | assumption | exact (g1.1 _).trans rfl | exact I1 _ (by omega) | exact I2 _ (by omega) | exact I3 _ (by omega) | exact I4 _ (by omega)) (Nat.le_of_ble_eq_true rfl) (Nat.le_of_ble_eq_true rfl) rfl ⟨Nat.le_of_ble_eq_true rfl, Nat.le_of_ble_eq_true rfl, Nat.le_of_ble_eq_true rfl, Nat.le_of_ble_eq_true rfl, Nat.le_of_ble_eq_true rfl⟩ rfl (c_lettersOf g1 (Or.inl rfl) (F := fst S.1 q) (by omega) (by omega) (yF q (by omega)) (yl.1 q k (by omega) (by omega))) (fun v9 h9 p9 => ?_)
          obtain ⟨e1, e2⟩ := p9
          subst e2
          replace e1 := e1.symm
          subst e1
          change RN 49 136 _ _ _ 0 0 _
          dsimp only [Option.toList, List.cons_append, List.nil_append]
          refine r_ireturn hm rfl rfl (by rfl) (Nat.le_of_ble_eq_true rfl) (Nat.le_of_ble_eq_true rfl) ?_
          refine ⟨I2, fx, ?_⟩
          unfold aTold
          rw [if_neg (by omega), if_neg (by rw [Int.toNat_natCast]; omega), if_neg (by omega), if_neg (by omega), if_neg (by omega), if_neg (by omega), if_pos (by omega)]
          try rfl
        by_cases s47_5 : w = 5
        · refine r_tsw hm rfl 137 (fun q => by omega) (fun q => ⟨90, by rw [s47_5]; rfl, rfl⟩) ?_
          refine r_aload_n hm rfl (k := ?_)
          refine r_callv (j2 := 52) hm rfl rfl rfl rfl rfl rfl (by first | assumption | exact (g1.1 _).trans rfl | exact I1 _ (by omega) | exact I2 _ (by omega) | exact I3 _ (by omega) | exact I4 _ (by omega)) (Nat.le_of_ble_eq_true rfl) (Nat.le_of_ble_eq_true rfl) rfl ⟨Nat.le_of_ble_eq_true rfl, Nat.le_of_ble_eq_true rfl, Nat.le_of_ble_eq_true rfl, Nat.le_of_ble_eq_true rfl, Nat.le_of_ble_eq_true rfl⟩ rfl (c_freshSetting I ok) (fun v9 h9 p9 => ?_)
          obtain ⟨I2, fx, yS, e1⟩ := p9
          subst e1
          replace g1 := I2.1
          obtain ⟨y8, y9, y10, y11, y20, yP, yL, yF, yl, yn, ym, yN⟩ := id yS
          obtain ⟨⟨v5, v6, v7, v8, vus, vfp, vlp, vwr⟩, vwl⟩ := id yP
          have hlt := ltR_ok (H := S.1.2.2.2 0) hok (fin S.1 (S.1.2.2.2 0))
          have hH : 8 ≤ S.1.2.2.2 0 ∧ S.1.2.2.2 0 ≤ 60 := by have := hok.2.2.2.2; unfold okStl at this; omega
          obtain ⟨pk, pr, pw⟩ := psf_ok hok hlt hH
          have prg := pk.rng (TT_le hok (Nat.le_refl _))
          have flr := fin_le (x := S.1) (H := S.1.2.2.2 0)
          change RN 49 141 _ _ _ 0 0 _
          dsimp only [Option.toList, List.cons_append, List.nil_append]
          refine r_getR (hm := hm) (hf := rfl) (hd := rfl) (hs := (by first | assumption | exact (g1.1 _).trans rfl | exact I1 _ (by omega) | exact I2 _ (by omega) | exact I3 _ (by omega) | exact I4 _ (by omega))) (hv := (by first | assumption | exact g1.2 _ _ _ rfl | exact I0 _ (by omega) | exact J0 _ (by omega) | exact J1 _ (by omega) | exact J2 _ (by omega) | exact F0 _ (by omega) | exact F1 _ (by omega) | exact F2 _ (by omega) | exact F3 _ (by omega) | exact F4 _ (by omega) | exact P0 _ _ (by omega) (by omega) | exact P1 _ _ (by omega) (by omega) | exact P2 _ _ (by omega) (by omega))) (k := ?_)
          refine r_iload_n hm rfl (k := ?_)
          refine r_iload_n hm rfl (k := ?_)
          refine r_callv (j2 := 77) hm rfl rfl rfl rfl rfl rfl (by first | assumption | exact (g1.1 _).trans rfl | exact I1 _ (by omega) | exact I2 _ (by omega) | exact I3 _ (by omega) | exact I4 _ (by omega)) (Nat.le_of_ble_eq_true rfl) (Nat.le_of_ble_eq_true rfl) rfl ⟨Nat.le_of_ble_eq_true rfl, Nat.le_of_ble_eq_true rfl, Nat.le_of_ble_eq_true rfl, Nat.le_of_ble_eq_true rfl, Nat.le_of_ble_eq_true rfl⟩ rfl (c_pageOfPiece (s := 294) g1 (Or.inl rfl) (F := fst S.1 q) (by omega) (by omega) (yF q (by omega)) (yL.2 q k (by omega) (by omega)).2) (fun v9 h9 p9 => ?_)
          obtain ⟨e1, e2⟩ := p9
          subst e2
          replace e1 := e1.symm
          subst e1
          change RN 49 149 _ _ _ 0 0 _
          dsimp only [Option.toList, List.cons_append, List.nil_append]
          refine r_ireturn hm rfl rfl (by rfl) (Nat.le_of_ble_eq_true rfl) (Nat.le_of_ble_eq_true rfl) ?_
          refine ⟨I2, fx, ?_⟩
          unfold aTold
          rw [if_neg (by omega), if_neg (by rw [Int.toNat_natCast]; omega), if_neg (by omega), if_neg (by omega), if_neg (by omega), if_neg (by omega), if_neg (by omega), if_pos (by omega)]
          try rfl
        by_cases s47_6 : w = 6
        · refine r_tsw hm rfl 150 (fun q => by omega) (fun q => ⟨103, by rw [s47_6]; rfl, rfl⟩) ?_
          refine r_aload_n hm rfl (k := ?_)
          refine r_callv (j2 := 52) hm rfl rfl rfl rfl rfl rfl (by first | assumption | exact (g1.1 _).trans rfl | exact I1 _ (by omega) | exact I2 _ (by omega) | exact I3 _ (by omega) | exact I4 _ (by omega)) (Nat.le_of_ble_eq_true rfl) (Nat.le_of_ble_eq_true rfl) rfl ⟨Nat.le_of_ble_eq_true rfl, Nat.le_of_ble_eq_true rfl, Nat.le_of_ble_eq_true rfl, Nat.le_of_ble_eq_true rfl, Nat.le_of_ble_eq_true rfl⟩ rfl (c_freshSetting I ok) (fun v9 h9 p9 => ?_)
          obtain ⟨I2, fx, yS, e1⟩ := p9
          subst e1
          replace g1 := I2.1
          obtain ⟨y8, y9, y10, y11, y20, yP, yL, yF, yl, yn, ym, yN⟩ := id yS
          obtain ⟨⟨v5, v6, v7, v8, vus, vfp, vlp, vwr⟩, vwl⟩ := id yP
          have hlt := ltR_ok (H := S.1.2.2.2 0) hok (fin S.1 (S.1.2.2.2 0))
          have hH : 8 ≤ S.1.2.2.2 0 ∧ S.1.2.2.2 0 ≤ 60 := by have := hok.2.2.2.2; unfold okStl at this; omega
          obtain ⟨pk, pr, pw⟩ := psf_ok hok hlt hH
          have prg := pk.rng (TT_le hok (Nat.le_refl _))
          have flr := fin_le (x := S.1) (H := S.1.2.2.2 0)
          change RN 49 154 _ _ _ 0 0 _
          dsimp only [Option.toList, List.cons_append, List.nil_append]
          refine r_getR (hm := hm) (hf := rfl) (hd := rfl) (hs := (by first | assumption | exact (g1.1 _).trans rfl | exact I1 _ (by omega) | exact I2 _ (by omega) | exact I3 _ (by omega) | exact I4 _ (by omega))) (hv := (by first | assumption | exact g1.2 _ _ _ rfl | exact I0 _ (by omega) | exact J0 _ (by omega) | exact J1 _ (by omega) | exact J2 _ (by omega) | exact F0 _ (by omega) | exact F1 _ (by omega) | exact F2 _ (by omega) | exact F3 _ (by omega) | exact F4 _ (by omega) | exact P0 _ _ (by omega) (by omega) | exact P1 _ _ (by omega) (by omega) | exact P2 _ _ (by omega) (by omega))) (k := ?_)
          refine r_iload_n hm rfl (k := ?_)
          refine r_iload_n hm rfl (k := ?_)
          refine r_callv (j2 := 85) hm rfl rfl rfl rfl rfl rfl (by first | assumption | exact (g1.1 _).trans rfl | exact I1 _ (by omega) | exact I2 _ (by omega) | exact I3 _ (by omega) | exact I4 _ (by omega)) (Nat.le_of_ble_eq_true rfl) (Nat.le_of_ble_eq_true rfl) rfl ⟨Nat.le_of_ble_eq_true rfl, Nat.le_of_ble_eq_true rfl, Nat.le_of_ble_eq_true rfl, Nat.le_of_ble_eq_true rfl, Nat.le_of_ble_eq_true rfl⟩ rfl (c_lineOfPiece (s := 294) g1 (Or.inl rfl) (F := fst S.1 q) (by omega) (by omega) (yF q (by omega)) (yL.2 q k (by omega) (by omega)).1) (fun v9 h9 p9 => ?_)
          obtain ⟨e1, e2⟩ := p9
          subst e2
          replace e1 := e1.symm
          subst e1
          change RN 49 162 _ _ _ 0 0 _
          dsimp only [Option.toList, List.cons_append, List.nil_append]
          refine r_ireturn hm rfl rfl (by rfl) (Nat.le_of_ble_eq_true rfl) (Nat.le_of_ble_eq_true rfl) ?_
          refine ⟨I2, fx, ?_⟩
          unfold aTold
          rw [if_neg (by omega), if_neg (by rw [Int.toNat_natCast]; omega), if_neg (by omega), if_neg (by omega), if_neg (by omega), if_neg (by omega), if_neg (by omega), if_neg (by omega), if_pos (by omega)]
          try rfl
        by_cases s47_7 : w = 7
        · refine r_tsw hm rfl 163 (fun q => by omega) (fun q => ⟨116, by rw [s47_7]; rfl, rfl⟩) ?_
          refine r_aload_n hm rfl (k := ?_)
          refine r_callv (j2 := 52) hm rfl rfl rfl rfl rfl rfl (by first | assumption | exact (g1.1 _).trans rfl | exact I1 _ (by omega) | exact I2 _ (by omega) | exact I3 _ (by omega) | exact I4 _ (by omega)) (Nat.le_of_ble_eq_true rfl) (Nat.le_of_ble_eq_true rfl) rfl ⟨Nat.le_of_ble_eq_true rfl, Nat.le_of_ble_eq_true rfl, Nat.le_of_ble_eq_true rfl, Nat.le_of_ble_eq_true rfl, Nat.le_of_ble_eq_true rfl⟩ rfl (c_freshSetting I ok) (fun v9 h9 p9 => ?_)
          obtain ⟨I2, fx, yS, e1⟩ := p9
          subst e1
          replace g1 := I2.1
          obtain ⟨y8, y9, y10, y11, y20, yP, yL, yF, yl, yn, ym, yN⟩ := id yS
          obtain ⟨⟨v5, v6, v7, v8, vus, vfp, vlp, vwr⟩, vwl⟩ := id yP
          have hlt := ltR_ok (H := S.1.2.2.2 0) hok (fin S.1 (S.1.2.2.2 0))
          have hH : 8 ≤ S.1.2.2.2 0 ∧ S.1.2.2.2 0 ≤ 60 := by have := hok.2.2.2.2; unfold okStl at this; omega
          obtain ⟨pk, pr, pw⟩ := psf_ok hok hlt hH
          have prg := pk.rng (TT_le hok (Nat.le_refl _))
          have flr := fin_le (x := S.1) (H := S.1.2.2.2 0)
          change RN 49 167 _ _ _ 0 0 _
          dsimp only [Option.toList, List.cons_append, List.nil_append]
          refine r_iload_n hm rfl (k := ?_)
          refine r_iload_n hm rfl (k := ?_)
          refine r_callv (j2 := 86) hm rfl rfl rfl rfl rfl rfl (by first | assumption | exact (g1.1 _).trans rfl | exact I1 _ (by omega) | exact I2 _ (by omega) | exact I3 _ (by omega) | exact I4 _ (by omega)) (Nat.le_of_ble_eq_true rfl) (Nat.le_of_ble_eq_true rfl) rfl ⟨Nat.le_of_ble_eq_true rfl, Nat.le_of_ble_eq_true rfl, Nat.le_of_ble_eq_true rfl, Nat.le_of_ble_eq_true rfl, Nat.le_of_ble_eq_true rfl⟩ rfl (c_noteCountOf g1 (Or.inl rfl) (F := fst S.1 q) (by omega) (by omega) (yF q (by omega)) (yn.1 q k (by omega) (by omega))) (fun v9 h9 p9 => ?_)
          obtain ⟨e1, e2⟩ := p9
          subst e2
          replace e1 := e1.symm
          subst e1
          change RN 49 172 _ _ _ 0 0 _
          dsimp only [Option.toList, List.cons_append, List.nil_append]
          refine r_ireturn hm rfl rfl (by rfl) (Nat.le_of_ble_eq_true rfl) (Nat.le_of_ble_eq_true rfl) ?_
          refine ⟨I2, fx, ?_⟩
          unfold aTold
          rw [if_neg (by omega), if_neg (by rw [Int.toNat_natCast]; omega), if_neg (by omega), if_neg (by omega), if_neg (by omega), if_neg (by omega), if_neg (by omega), if_neg (by omega), if_neg (by omega), if_pos (by omega)]
          try rfl
        refine r_tsw hm rfl 173 (fun q => rfl) (fun q => by exfalso; omega) ?_
        refine r_sipush hm rfl (k := ?_)
        refine r_ireturn hm rfl rfl (by rfl) (Nat.le_of_ble_eq_true rfl) (Nat.le_of_ble_eq_true rfl) ?_
        refine ⟨I, FxC.refl, ?_⟩
        unfold aTold
        rw [if_neg (by omega), if_neg (by rw [Int.toNat_natCast]; omega), if_neg (by omega), if_neg (by omega), if_neg (by omega), if_neg (by omega), if_neg (by omega), if_neg (by omega), if_neg (by omega), if_neg (by omega)]
        try rfl
      · refine r_sipush hm rfl (k := ?_)
        refine r_ireturn hm rfl rfl (by rfl) (Nat.le_of_ble_eq_true rfl) (Nat.le_of_ble_eq_true rfl) ?_
        refine ⟨I, FxC.refl, ?_⟩
        unfold aTold
        rw [if_neg (by omega), if_pos (by first | omega | (rw [Int.toNat_natCast]; omega))]
set_option maxRecDepth 8000 in
theorem c_count {L : Nat} {h : Hp} {S : St} (I : InvC L h S) (ok : okS S) {w : Int} : RN 87 0 [some (.inr (.inr (some (28)))), some (.inl w)] [] h 0 0 (fun v h2 => InvC L h2 S ∧ FxC h h2 ∧ v = some (.inl (aCount S w))) := by
  have hm : mrec 87 = some nM87 := rfl
  obtain ⟨g, C, hR, hV, hK, hG, hSt, hL, hB, hFl⟩ := id I
  have hok := ok.1
  have ht : isT 29 := Or.inl rfl
  obtain ⟨T1, T2, T3, T4, T5, T6, T7⟩ := g.tx ht
  obtain ⟨I0, I1, I2, I3, I4, J0, J1, J2, F0, F1, F2, F3, F4, P0, P1, P2⟩ := hR.use g ht
  obtain ⟨R1, R2, R3, R4, R5, R6, R7⟩ := id hR
  have n60 := hok.1
  have g1 := g
  refine r_iload_n hm rfl (k := ?_)
  by_cases s1_0 : w = 0
  · refine r_tsw hm rfl 56 (fun q => by omega) (fun q => ⟨55, by rw [s1_0]; rfl, rfl⟩) ?_
    refine r_aload_n hm rfl (k := ?_)
    refine r_getR (hm := hm) (hf := rfl) (hd := rfl) (hs := (by first | assumption | exact (g1.1 _).trans rfl | exact I1 _ (by omega) | exact I2 _ (by omega) | exact I3 _ (by omega) | exact I4 _ (by omega))) (hv := (by first | assumption | exact g1.2 _ _ _ rfl | exact I0 _ (by omega) | exact J0 _ (by omega) | exact J1 _ (by omega) | exact J2 _ (by omega) | exact F0 _ (by omega) | exact F1 _ (by omega) | exact F2 _ (by omega) | exact F3 _ (by omega) | exact F4 _ (by omega) | exact P0 _ _ (by omega) (by omega) | exact P1 _ _ (by omega) (by omega) | exact P2 _ _ (by omega) (by omega))) (k := ?_)
    refine r_getI (hm := hm) (hf := rfl) (hd := rfl) (hs := (by first | assumption | exact (g1.1 _).trans rfl | exact I1 _ (by omega) | exact I2 _ (by omega) | exact I3 _ (by omega) | exact I4 _ (by omega))) (hv := (by first | assumption | exact g1.2 _ _ _ rfl | exact I0 _ (by omega) | exact J0 _ (by omega) | exact J1 _ (by omega) | exact J2 _ (by omega) | exact F0 _ (by omega) | exact F1 _ (by omega) | exact F2 _ (by omega) | exact F3 _ (by omega) | exact F4 _ (by omega) | exact P0 _ _ (by omega) (by omega) | exact P1 _ _ (by omega) (by omega) | exact P2 _ _ (by omega) (by omega))) (k := ?_)
    refine r_ireturn hm rfl rfl (by rfl) (Nat.le_of_ble_eq_true rfl) (Nat.le_of_ble_eq_true rfl) ?_
    refine ⟨I, FxC.refl, ?_⟩
    unfold aCount
    rw [if_pos (by omega)]
    try rfl
  by_cases s1_1 : w = 1
  · refine r_tsw hm rfl 64 (fun q => by omega) (fun q => ⟨63, by rw [s1_1]; rfl, rfl⟩) ?_
    refine r_aload_n hm rfl (k := ?_)
    refine r_getI (hm := hm) (hf := rfl) (hd := rfl) (hs := (by first | assumption | exact (g1.1 _).trans rfl | exact I1 _ (by omega) | exact I2 _ (by omega) | exact I3 _ (by omega) | exact I4 _ (by omega))) (hv := (by first | assumption | exact g1.2 _ _ _ rfl | exact I0 _ (by omega) | exact J0 _ (by omega) | exact J1 _ (by omega) | exact J2 _ (by omega) | exact F0 _ (by omega) | exact F1 _ (by omega) | exact F2 _ (by omega) | exact F3 _ (by omega) | exact F4 _ (by omega) | exact P0 _ _ (by omega) (by omega) | exact P1 _ _ (by omega) (by omega) | exact P2 _ _ (by omega) (by omega))) (k := ?_)
    refine r_ireturn hm rfl rfl (by rfl) (Nat.le_of_ble_eq_true rfl) (Nat.le_of_ble_eq_true rfl) ?_
    refine ⟨I, FxC.refl, ?_⟩
    unfold aCount
    rw [if_neg (by omega), if_pos (by omega)]
    try rfl
  by_cases s1_2 : w = 2
  · refine r_tsw hm rfl 69 (fun q => by omega) (fun q => ⟨68, by rw [s1_2]; rfl, rfl⟩) ?_
    refine r_aload_n hm rfl (k := ?_)
    refine r_getR (hm := hm) (hf := rfl) (hd := rfl) (hs := (by first | assumption | exact (g1.1 _).trans rfl | exact I1 _ (by omega) | exact I2 _ (by omega) | exact I3 _ (by omega) | exact I4 _ (by omega))) (hv := (by first | assumption | exact g1.2 _ _ _ rfl | exact I0 _ (by omega) | exact J0 _ (by omega) | exact J1 _ (by omega) | exact J2 _ (by omega) | exact F0 _ (by omega) | exact F1 _ (by omega) | exact F2 _ (by omega) | exact F3 _ (by omega) | exact F4 _ (by omega) | exact P0 _ _ (by omega) (by omega) | exact P1 _ _ (by omega) (by omega) | exact P2 _ _ (by omega) (by omega))) (k := ?_)
    refine r_callv (j2 := 88) hm rfl rfl rfl rfl rfl rfl (by first | assumption | exact (g1.1 _).trans rfl | exact I1 _ (by omega) | exact I2 _ (by omega) | exact I3 _ (by omega) | exact I4 _ (by omega)) (Nat.le_of_ble_eq_true rfl) (Nat.le_of_ble_eq_true rfl) rfl ⟨Nat.le_of_ble_eq_true rfl, Nat.le_of_ble_eq_true rfl, Nat.le_of_ble_eq_true rfl, Nat.le_of_ble_eq_true rfl, Nat.le_of_ble_eq_true rfl⟩ rfl (c_countAllPieces g ht hR hok) (fun v9 h9 p9 => ?_)
    obtain ⟨e1, e2⟩ := p9
    subst e2
    replace e1 := e1.symm
    subst e1
    change RN 87 76 _ _ _ 0 0 _
    dsimp only [Option.toList, List.cons_append, List.nil_append]
    refine r_ireturn hm rfl rfl (by rfl) (Nat.le_of_ble_eq_true rfl) (Nat.le_of_ble_eq_true rfl) ?_
    refine ⟨I, FxC.refl, ?_⟩
    unfold aCount
    rw [if_neg (by omega), if_neg (by omega), if_pos (by omega)]
    try rfl
  by_cases s1_3 : w = 3
  · refine r_tsw hm rfl 77 (fun q => by omega) (fun q => ⟨76, by rw [s1_3]; rfl, rfl⟩) ?_
    refine r_aload_n hm rfl (k := ?_)
    refine r_getR (hm := hm) (hf := rfl) (hd := rfl) (hs := (by first | assumption | exact (g1.1 _).trans rfl | exact I1 _ (by omega) | exact I2 _ (by omega) | exact I3 _ (by omega) | exact I4 _ (by omega))) (hv := (by first | assumption | exact g1.2 _ _ _ rfl | exact I0 _ (by omega) | exact J0 _ (by omega) | exact J1 _ (by omega) | exact J2 _ (by omega) | exact F0 _ (by omega) | exact F1 _ (by omega) | exact F2 _ (by omega) | exact F3 _ (by omega) | exact F4 _ (by omega) | exact P0 _ _ (by omega) (by omega) | exact P1 _ _ (by omega) (by omega) | exact P2 _ _ (by omega) (by omega))) (k := ?_)
    refine r_iconst hm rfl (k := ?_)
    refine r_callv (j2 := 89) hm rfl rfl rfl rfl rfl rfl (by first | assumption | exact (g1.1 _).trans rfl | exact I1 _ (by omega) | exact I2 _ (by omega) | exact I3 _ (by omega) | exact I4 _ (by omega)) (Nat.le_of_ble_eq_true rfl) (Nat.le_of_ble_eq_true rfl) rfl ⟨Nat.le_of_ble_eq_true rfl, Nat.le_of_ble_eq_true rfl, Nat.le_of_ble_eq_true rfl, Nat.le_of_ble_eq_true rfl, Nat.le_of_ble_eq_true rfl⟩ rfl (c_countPieces g ht hR hok) (fun v9 h9 p9 => ?_)
    obtain ⟨e1, e2⟩ := p9
    subst e2
    replace e1 := e1.symm
    subst e1
    change RN 87 85 _ _ _ 0 0 _
    dsimp only [Option.toList, List.cons_append, List.nil_append]
    refine r_ireturn hm rfl rfl (by rfl) (Nat.le_of_ble_eq_true rfl) (Nat.le_of_ble_eq_true rfl) ?_
    refine ⟨I, FxC.refl, ?_⟩
    unfold aCount
    rw [if_neg (by omega), if_neg (by omega), if_neg (by omega), if_pos (by omega)]
    try rfl
  by_cases s1_4 : w = 4
  · refine r_tsw hm rfl 86 (fun q => by omega) (fun q => ⟨85, by rw [s1_4]; rfl, rfl⟩) ?_
    refine r_aload_n hm rfl (k := ?_)
    refine r_getR (hm := hm) (hf := rfl) (hd := rfl) (hs := (by first | assumption | exact (g1.1 _).trans rfl | exact I1 _ (by omega) | exact I2 _ (by omega) | exact I3 _ (by omega) | exact I4 _ (by omega))) (hv := (by first | assumption | exact g1.2 _ _ _ rfl | exact I0 _ (by omega) | exact J0 _ (by omega) | exact J1 _ (by omega) | exact J2 _ (by omega) | exact F0 _ (by omega) | exact F1 _ (by omega) | exact F2 _ (by omega) | exact F3 _ (by omega) | exact F4 _ (by omega) | exact P0 _ _ (by omega) (by omega) | exact P1 _ _ (by omega) (by omega) | exact P2 _ _ (by omega) (by omega))) (k := ?_)
    refine r_callv (j2 := 90) hm rfl rfl rfl rfl rfl rfl (by first | assumption | exact (g1.1 _).trans rfl | exact I1 _ (by omega) | exact I2 _ (by omega) | exact I3 _ (by omega) | exact I4 _ (by omega)) (Nat.le_of_ble_eq_true rfl) (Nat.le_of_ble_eq_true rfl) rfl ⟨Nat.le_of_ble_eq_true rfl, Nat.le_of_ble_eq_true rfl, Nat.le_of_ble_eq_true rfl, Nat.le_of_ble_eq_true rfl, Nat.le_of_ble_eq_true rfl⟩ rfl (c_countVain g ht hR hok) (fun v9 h9 p9 => ?_)
    obtain ⟨e1, e2⟩ := p9
    subst e2
    replace e1 := e1.symm
    subst e1
    change RN 87 93 _ _ _ 0 0 _
    dsimp only [Option.toList, List.cons_append, List.nil_append]
    refine r_ireturn hm rfl rfl (by rfl) (Nat.le_of_ble_eq_true rfl) (Nat.le_of_ble_eq_true rfl) ?_
    refine ⟨I, FxC.refl, ?_⟩
    unfold aCount
    rw [if_neg (by omega), if_neg (by omega), if_neg (by omega), if_neg (by omega), if_pos (by omega)]
    try rfl
  by_cases s1_5 : w = 5
  · refine r_tsw hm rfl 94 (fun q => by omega) (fun q => ⟨93, by rw [s1_5]; rfl, rfl⟩) ?_
    refine r_aload_n hm rfl (k := ?_)
    refine r_getR (hm := hm) (hf := rfl) (hd := rfl) (hs := (by first | assumption | exact (g1.1 _).trans rfl | exact I1 _ (by omega) | exact I2 _ (by omega) | exact I3 _ (by omega) | exact I4 _ (by omega))) (hv := (by first | assumption | exact g1.2 _ _ _ rfl | exact I0 _ (by omega) | exact J0 _ (by omega) | exact J1 _ (by omega) | exact J2 _ (by omega) | exact F0 _ (by omega) | exact F1 _ (by omega) | exact F2 _ (by omega) | exact F3 _ (by omega) | exact F4 _ (by omega) | exact P0 _ _ (by omega) (by omega) | exact P1 _ _ (by omega) (by omega) | exact P2 _ _ (by omega) (by omega))) (k := ?_)
    refine r_callv (j2 := 91) hm rfl rfl rfl rfl rfl rfl (by first | assumption | exact (g1.1 _).trans rfl | exact I1 _ (by omega) | exact I2 _ (by omega) | exact I3 _ (by omega) | exact I4 _ (by omega)) (Nat.le_of_ble_eq_true rfl) (Nat.le_of_ble_eq_true rfl) rfl ⟨Nat.le_of_ble_eq_true rfl, Nat.le_of_ble_eq_true rfl, Nat.le_of_ble_eq_true rfl, Nat.le_of_ble_eq_true rfl, Nat.le_of_ble_eq_true rfl⟩ rfl (c_twice g ht hR) (fun v9 h9 p9 => ?_)
    obtain ⟨e1, e2⟩ := p9
    subst e2
    replace e1 := e1.symm
    subst e1
    change RN 87 101 _ _ _ 0 0 _
    dsimp only [Option.toList, List.cons_append, List.nil_append]
    refine r_ireturn hm rfl rfl (by rfl) (Nat.le_of_ble_eq_true rfl) (Nat.le_of_ble_eq_true rfl) ?_
    refine ⟨I, FxC.refl, ?_⟩
    unfold aCount
    rw [if_neg (by omega), if_neg (by omega), if_neg (by omega), if_neg (by omega), if_neg (by omega), if_pos (by omega)]
    try rfl
  by_cases s1_6 : w = 6
  · refine r_tsw hm rfl 102 (fun q => by omega) (fun q => ⟨101, by rw [s1_6]; rfl, rfl⟩) ?_
    refine r_aload_n hm rfl (k := ?_)
    refine r_getR (hm := hm) (hf := rfl) (hd := rfl) (hs := (by first | assumption | exact (g1.1 _).trans rfl | exact I1 _ (by omega) | exact I2 _ (by omega) | exact I3 _ (by omega) | exact I4 _ (by omega))) (hv := (by first | assumption | exact g1.2 _ _ _ rfl | exact I0 _ (by omega) | exact J0 _ (by omega) | exact J1 _ (by omega) | exact J2 _ (by omega) | exact F0 _ (by omega) | exact F1 _ (by omega) | exact F2 _ (by omega) | exact F3 _ (by omega) | exact F4 _ (by omega) | exact P0 _ _ (by omega) (by omega) | exact P1 _ _ (by omega) (by omega) | exact P2 _ _ (by omega) (by omega))) (k := ?_)
    refine r_callv (j2 := 92) hm rfl rfl rfl rfl rfl rfl (by first | assumption | exact (g1.1 _).trans rfl | exact I1 _ (by omega) | exact I2 _ (by omega) | exact I3 _ (by omega) | exact I4 _ (by omega)) (Nat.le_of_ble_eq_true rfl) (Nat.le_of_ble_eq_true rfl) rfl ⟨Nat.le_of_ble_eq_true rfl, Nat.le_of_ble_eq_true rfl, Nat.le_of_ble_eq_true rfl, Nat.le_of_ble_eq_true rfl, Nat.le_of_ble_eq_true rfl⟩ rfl (c_countLonely g ht hR hok) (fun v9 h9 p9 => ?_)
    obtain ⟨e1, e2⟩ := p9
    subst e2
    replace e1 := e1.symm
    subst e1
    change RN 87 109 _ _ _ 0 0 _
    dsimp only [Option.toList, List.cons_append, List.nil_append]
    refine r_ireturn hm rfl rfl (by rfl) (Nat.le_of_ble_eq_true rfl) (Nat.le_of_ble_eq_true rfl) ?_
    refine ⟨I, FxC.refl, ?_⟩
    unfold aCount
    rw [if_neg (by omega), if_neg (by omega), if_neg (by omega), if_neg (by omega), if_neg (by omega), if_neg (by omega), if_pos (by omega)]
    try rfl
  by_cases s1_7 : w = 7
  · refine r_tsw hm rfl 110 (fun q => by omega) (fun q => ⟨109, by rw [s1_7]; rfl, rfl⟩) ?_
    refine r_aload_n hm rfl (k := ?_)
    refine r_getR (hm := hm) (hf := rfl) (hd := rfl) (hs := (by first | assumption | exact (g1.1 _).trans rfl | exact I1 _ (by omega) | exact I2 _ (by omega) | exact I3 _ (by omega) | exact I4 _ (by omega))) (hv := (by first | assumption | exact g1.2 _ _ _ rfl | exact I0 _ (by omega) | exact J0 _ (by omega) | exact J1 _ (by omega) | exact J2 _ (by omega) | exact F0 _ (by omega) | exact F1 _ (by omega) | exact F2 _ (by omega) | exact F3 _ (by omega) | exact F4 _ (by omega) | exact P0 _ _ (by omega) (by omega) | exact P1 _ _ (by omega) (by omega) | exact P2 _ _ (by omega) (by omega))) (k := ?_)
    refine r_callv (j2 := 96) hm rfl rfl rfl rfl rfl rfl (by first | assumption | exact (g1.1 _).trans rfl | exact I1 _ (by omega) | exact I2 _ (by omega) | exact I3 _ (by omega) | exact I4 _ (by omega)) (Nat.le_of_ble_eq_true rfl) (Nat.le_of_ble_eq_true rfl) rfl ⟨Nat.le_of_ble_eq_true rfl, Nat.le_of_ble_eq_true rfl, Nat.le_of_ble_eq_true rfl, Nat.le_of_ble_eq_true rfl, Nat.le_of_ble_eq_true rfl⟩ rfl (c_countLate g ht hR hok) (fun v9 h9 p9 => ?_)
    obtain ⟨e1, e2⟩ := p9
    subst e2
    replace e1 := e1.symm
    subst e1
    change RN 87 117 _ _ _ 0 0 _
    dsimp only [Option.toList, List.cons_append, List.nil_append]
    refine r_ireturn hm rfl rfl (by rfl) (Nat.le_of_ble_eq_true rfl) (Nat.le_of_ble_eq_true rfl) ?_
    refine ⟨I, FxC.refl, ?_⟩
    unfold aCount
    rw [if_neg (by omega), if_neg (by omega), if_neg (by omega), if_neg (by omega), if_neg (by omega), if_neg (by omega), if_neg (by omega), if_pos (by omega)]
    try rfl
  by_cases s1_8 : w = 8
  · refine r_tsw hm rfl 118 (fun q => by omega) (fun q => ⟨117, by rw [s1_8]; rfl, rfl⟩) ?_
    refine r_aload_n hm rfl (k := ?_)
    refine r_getR (hm := hm) (hf := rfl) (hd := rfl) (hs := (by first | assumption | exact (g1.1 _).trans rfl | exact I1 _ (by omega) | exact I2 _ (by omega) | exact I3 _ (by omega) | exact I4 _ (by omega))) (hv := (by first | assumption | exact g1.2 _ _ _ rfl | exact I0 _ (by omega) | exact J0 _ (by omega) | exact J1 _ (by omega) | exact J2 _ (by omega) | exact F0 _ (by omega) | exact F1 _ (by omega) | exact F2 _ (by omega) | exact F3 _ (by omega) | exact F4 _ (by omega) | exact P0 _ _ (by omega) (by omega) | exact P1 _ _ (by omega) (by omega) | exact P2 _ _ (by omega) (by omega))) (k := ?_)
    refine r_getI (hm := hm) (hf := rfl) (hd := rfl) (hs := (by first | assumption | exact (g1.1 _).trans rfl | exact I1 _ (by omega) | exact I2 _ (by omega) | exact I3 _ (by omega) | exact I4 _ (by omega))) (hv := (by first | assumption | exact g1.2 _ _ _ rfl | exact I0 _ (by omega) | exact J0 _ (by omega) | exact J1 _ (by omega) | exact J2 _ (by omega) | exact F0 _ (by omega) | exact F1 _ (by omega) | exact F2 _ (by omega) | exact F3 _ (by omega) | exact F4 _ (by omega) | exact P0 _ _ (by omega) (by omega) | exact P1 _ _ (by omega) (by omega) | exact P2 _ _ (by omega) (by omega))) (k := ?_)
    refine r_ireturn hm rfl rfl (by rfl) (Nat.le_of_ble_eq_true rfl) (Nat.le_of_ble_eq_true rfl) ?_
    refine ⟨I, FxC.refl, ?_⟩
    unfold aCount
    rw [if_neg (by omega), if_neg (by omega), if_neg (by omega), if_neg (by omega), if_neg (by omega), if_neg (by omega), if_neg (by omega), if_neg (by omega), if_pos (by omega)]
    try rfl
  by_cases s1_9 : w = 9
  · refine r_tsw hm rfl 126 (fun q => by omega) (fun q => ⟨125, by rw [s1_9]; rfl, rfl⟩) ?_
    refine r_aload_n hm rfl (k := ?_)
    refine r_getR (hm := hm) (hf := rfl) (hd := rfl) (hs := (by first | assumption | exact (g1.1 _).trans rfl | exact I1 _ (by omega) | exact I2 _ (by omega) | exact I3 _ (by omega) | exact I4 _ (by omega))) (hv := (by first | assumption | exact g1.2 _ _ _ rfl | exact I0 _ (by omega) | exact J0 _ (by omega) | exact J1 _ (by omega) | exact J2 _ (by omega) | exact F0 _ (by omega) | exact F1 _ (by omega) | exact F2 _ (by omega) | exact F3 _ (by omega) | exact F4 _ (by omega) | exact P0 _ _ (by omega) (by omega) | exact P1 _ _ (by omega) (by omega) | exact P2 _ _ (by omega) (by omega))) (k := ?_)
    refine r_iconst hm rfl (k := ?_)
    refine r_callv (j2 := 89) hm rfl rfl rfl rfl rfl rfl (by first | assumption | exact (g1.1 _).trans rfl | exact I1 _ (by omega) | exact I2 _ (by omega) | exact I3 _ (by omega) | exact I4 _ (by omega)) (Nat.le_of_ble_eq_true rfl) (Nat.le_of_ble_eq_true rfl) rfl ⟨Nat.le_of_ble_eq_true rfl, Nat.le_of_ble_eq_true rfl, Nat.le_of_ble_eq_true rfl, Nat.le_of_ble_eq_true rfl, Nat.le_of_ble_eq_true rfl⟩ rfl (c_countPieces g ht hR hok) (fun v9 h9 p9 => ?_)
    obtain ⟨e1, e2⟩ := p9
    subst e2
    replace e1 := e1.symm
    subst e1
    change RN 87 134 _ _ _ 0 0 _
    dsimp only [Option.toList, List.cons_append, List.nil_append]
    refine r_ireturn hm rfl rfl (by rfl) (Nat.le_of_ble_eq_true rfl) (Nat.le_of_ble_eq_true rfl) ?_
    refine ⟨I, FxC.refl, ?_⟩
    unfold aCount
    rw [if_neg (by omega), if_neg (by omega), if_neg (by omega), if_neg (by omega), if_neg (by omega), if_neg (by omega), if_neg (by omega), if_neg (by omega), if_neg (by omega), if_pos (by omega)]
    try rfl
  refine r_tsw hm rfl 135 (fun q => rfl) (fun q => by exfalso; omega) ?_
  refine r_sipush hm rfl (k := ?_)
  refine r_ireturn hm rfl rfl (by rfl) (Nat.le_of_ble_eq_true rfl) (Nat.le_of_ble_eq_true rfl) ?_
  refine ⟨I, FxC.refl, ?_⟩
  unfold aCount
  rw [if_neg (by omega), if_neg (by omega), if_neg (by omega), if_neg (by omega), if_neg (by omega), if_neg (by omega), if_neg (by omega), if_neg (by omega), if_neg (by omega), if_neg (by omega)]
  try rfl
set_option maxRecDepth 8000 in
theorem c_set {L : Nat} {h : Hp} {S : St} (I : InvC L h S) (ok : okS S) {w : Int} : RN 97 0 [some (.inr (.inr (some (28)))), some (.inl w)] [] h 0 0 (fun v h2 => InvC L h2 S ∧ FxC h h2 ∧ v = some (.inl (aSet S w))) := by
  have hm : mrec 97 = some nM97 := rfl
  obtain ⟨g, C, hR, hV, hK, hG, hSt, hL, hB, hFl⟩ := id I
  have hok := ok.1
  have ht : isT 29 := Or.inl rfl
  obtain ⟨T1, T2, T3, T4, T5, T6, T7⟩ := g.tx ht
  obtain ⟨I0, I1, I2, I3, I4, J0, J1, J2, F0, F1, F2, F3, F4, P0, P1, P2⟩ := hR.use g ht
  obtain ⟨R1, R2, R3, R4, R5, R6, R7⟩ := id hR
  have n60 := hok.1
  have g1 := g
  refine r_iload_n hm rfl (k := ?_)
  by_cases s1_0 : w = 0
  · refine r_tsw hm rfl 36 (fun q => by omega) (fun q => ⟨35, by rw [s1_0]; rfl, rfl⟩) ?_
    refine r_aload_n hm rfl (k := ?_)
    refine r_callv (j2 := 52) hm rfl rfl rfl rfl rfl rfl (by first | assumption | exact (g1.1 _).trans rfl | exact I1 _ (by omega) | exact I2 _ (by omega) | exact I3 _ (by omega) | exact I4 _ (by omega)) (Nat.le_of_ble_eq_true rfl) (Nat.le_of_ble_eq_true rfl) rfl ⟨Nat.le_of_ble_eq_true rfl, Nat.le_of_ble_eq_true rfl, Nat.le_of_ble_eq_true rfl, Nat.le_of_ble_eq_true rfl, Nat.le_of_ble_eq_true rfl⟩ rfl (c_freshSetting I ok) (fun v9 h9 p9 => ?_)
    obtain ⟨I2, fx, yS, e1⟩ := p9
    subst e1
    replace g1 := I2.1
    obtain ⟨y8, y9, y10, y11, y20, yP, yL, yF, yl, yn, ym, yN⟩ := id yS
    obtain ⟨⟨v5, v6, v7, v8, vus, vfp, vlp, vwr⟩, vwl⟩ := id yP
    have hlt := ltR_ok (H := S.1.2.2.2 0) hok (fin S.1 (S.1.2.2.2 0))
    have hH : 8 ≤ S.1.2.2.2 0 ∧ S.1.2.2.2 0 ≤ 60 := by have := hok.2.2.2.2; unfold okStl at this; omega
    obtain ⟨pk, pr, pw⟩ := psf_ok hok hlt hH
    have prg := pk.rng (TT_le hok (Nat.le_refl _))
    have flr := fin_le (x := S.1) (H := S.1.2.2.2 0)
    change RN 97 40 _ _ _ 0 0 _
    dsimp only [Option.toList, List.cons_append, List.nil_append]
    refine r_getI (hm := hm) (hf := rfl) (hd := rfl) (hs := (by first | assumption | exact (g1.1 _).trans rfl | exact I1 _ (by omega) | exact I2 _ (by omega) | exact I3 _ (by omega) | exact I4 _ (by omega))) (hv := (by first | assumption | exact g1.2 _ _ _ rfl | exact I0 _ (by omega) | exact J0 _ (by omega) | exact J1 _ (by omega) | exact J2 _ (by omega) | exact F0 _ (by omega) | exact F1 _ (by omega) | exact F2 _ (by omega) | exact F3 _ (by omega) | exact F4 _ (by omega) | exact P0 _ _ (by omega) (by omega) | exact P1 _ _ (by omega) (by omega) | exact P2 _ _ (by omega) (by omega))) (k := ?_)
    refine r_ireturn hm rfl rfl (by rfl) (Nat.le_of_ble_eq_true rfl) (Nat.le_of_ble_eq_true rfl) ?_
    refine ⟨I2, fx, ?_⟩
    unfold aSet
    rw [if_pos (by omega)]
    try rfl
  by_cases s1_1 : w = 1
  · refine r_tsw hm rfl 44 (fun q => by omega) (fun q => ⟨43, by rw [s1_1]; rfl, rfl⟩) ?_
    refine r_aload_n hm rfl (k := ?_)
    refine r_callv (j2 := 52) hm rfl rfl rfl rfl rfl rfl (by first | assumption | exact (g1.1 _).trans rfl | exact I1 _ (by omega) | exact I2 _ (by omega) | exact I3 _ (by omega) | exact I4 _ (by omega)) (Nat.le_of_ble_eq_true rfl) (Nat.le_of_ble_eq_true rfl) rfl ⟨Nat.le_of_ble_eq_true rfl, Nat.le_of_ble_eq_true rfl, Nat.le_of_ble_eq_true rfl, Nat.le_of_ble_eq_true rfl, Nat.le_of_ble_eq_true rfl⟩ rfl (c_freshSetting I ok) (fun v9 h9 p9 => ?_)
    obtain ⟨I2, fx, yS, e1⟩ := p9
    subst e1
    replace g1 := I2.1
    obtain ⟨y8, y9, y10, y11, y20, yP, yL, yF, yl, yn, ym, yN⟩ := id yS
    obtain ⟨⟨v5, v6, v7, v8, vus, vfp, vlp, vwr⟩, vwl⟩ := id yP
    have hlt := ltR_ok (H := S.1.2.2.2 0) hok (fin S.1 (S.1.2.2.2 0))
    have hH : 8 ≤ S.1.2.2.2 0 ∧ S.1.2.2.2 0 ≤ 60 := by have := hok.2.2.2.2; unfold okStl at this; omega
    obtain ⟨pk, pr, pw⟩ := psf_ok hok hlt hH
    have prg := pk.rng (TT_le hok (Nat.le_refl _))
    have flr := fin_le (x := S.1) (H := S.1.2.2.2 0)
    change RN 97 48 _ _ _ 0 0 _
    dsimp only [Option.toList, List.cons_append, List.nil_append]
    refine r_getI (hm := hm) (hf := rfl) (hd := rfl) (hs := (by first | assumption | exact (g1.1 _).trans rfl | exact I1 _ (by omega) | exact I2 _ (by omega) | exact I3 _ (by omega) | exact I4 _ (by omega))) (hv := (by first | assumption | exact g1.2 _ _ _ rfl | exact I0 _ (by omega) | exact J0 _ (by omega) | exact J1 _ (by omega) | exact J2 _ (by omega) | exact F0 _ (by omega) | exact F1 _ (by omega) | exact F2 _ (by omega) | exact F3 _ (by omega) | exact F4 _ (by omega) | exact P0 _ _ (by omega) (by omega) | exact P1 _ _ (by omega) (by omega) | exact P2 _ _ (by omega) (by omega))) (k := ?_)
    refine r_ireturn hm rfl rfl (by rfl) (Nat.le_of_ble_eq_true rfl) (Nat.le_of_ble_eq_true rfl) ?_
    refine ⟨I2, fx, ?_⟩
    unfold aSet
    rw [if_neg (by omega), if_pos (by omega)]
    try rfl
  by_cases s1_2 : w = 2
  · refine r_tsw hm rfl 52 (fun q => by omega) (fun q => ⟨51, by rw [s1_2]; rfl, rfl⟩) ?_
    refine r_aload_n hm rfl (k := ?_)
    refine r_callv (j2 := 52) hm rfl rfl rfl rfl rfl rfl (by first | assumption | exact (g1.1 _).trans rfl | exact I1 _ (by omega) | exact I2 _ (by omega) | exact I3 _ (by omega) | exact I4 _ (by omega)) (Nat.le_of_ble_eq_true rfl) (Nat.le_of_ble_eq_true rfl) rfl ⟨Nat.le_of_ble_eq_true rfl, Nat.le_of_ble_eq_true rfl, Nat.le_of_ble_eq_true rfl, Nat.le_of_ble_eq_true rfl, Nat.le_of_ble_eq_true rfl⟩ rfl (c_freshSetting I ok) (fun v9 h9 p9 => ?_)
    obtain ⟨I2, fx, yS, e1⟩ := p9
    subst e1
    replace g1 := I2.1
    obtain ⟨y8, y9, y10, y11, y20, yP, yL, yF, yl, yn, ym, yN⟩ := id yS
    obtain ⟨⟨v5, v6, v7, v8, vus, vfp, vlp, vwr⟩, vwl⟩ := id yP
    have hlt := ltR_ok (H := S.1.2.2.2 0) hok (fin S.1 (S.1.2.2.2 0))
    have hH : 8 ≤ S.1.2.2.2 0 ∧ S.1.2.2.2 0 ≤ 60 := by have := hok.2.2.2.2; unfold okStl at this; omega
    obtain ⟨pk, pr, pw⟩ := psf_ok hok hlt hH
    have prg := pk.rng (TT_le hok (Nat.le_refl _))
    have flr := fin_le (x := S.1) (H := S.1.2.2.2 0)
    change RN 97 56 _ _ _ 0 0 _
    dsimp only [Option.toList, List.cons_append, List.nil_append]
    refine r_getI (hm := hm) (hf := rfl) (hd := rfl) (hs := (by first | assumption | exact (g1.1 _).trans rfl | exact I1 _ (by omega) | exact I2 _ (by omega) | exact I3 _ (by omega) | exact I4 _ (by omega))) (hv := (by first | assumption | exact g1.2 _ _ _ rfl | exact I0 _ (by omega) | exact J0 _ (by omega) | exact J1 _ (by omega) | exact J2 _ (by omega) | exact F0 _ (by omega) | exact F1 _ (by omega) | exact F2 _ (by omega) | exact F3 _ (by omega) | exact F4 _ (by omega) | exact P0 _ _ (by omega) (by omega) | exact P1 _ _ (by omega) (by omega) | exact P2 _ _ (by omega) (by omega))) (k := ?_)
    refine r_ireturn hm rfl rfl (by rfl) (Nat.le_of_ble_eq_true rfl) (Nat.le_of_ble_eq_true rfl) ?_
    refine ⟨I2, fx, ?_⟩
    unfold aSet
    rw [if_neg (by omega), if_neg (by omega), if_pos (by omega)]
    try rfl
  by_cases s1_3 : w = 3
  · refine r_tsw hm rfl 60 (fun q => by omega) (fun q => ⟨59, by rw [s1_3]; rfl, rfl⟩) ?_
    refine r_aload_n hm rfl (k := ?_)
    refine r_callv (j2 := 52) hm rfl rfl rfl rfl rfl rfl (by first | assumption | exact (g1.1 _).trans rfl | exact I1 _ (by omega) | exact I2 _ (by omega) | exact I3 _ (by omega) | exact I4 _ (by omega)) (Nat.le_of_ble_eq_true rfl) (Nat.le_of_ble_eq_true rfl) rfl ⟨Nat.le_of_ble_eq_true rfl, Nat.le_of_ble_eq_true rfl, Nat.le_of_ble_eq_true rfl, Nat.le_of_ble_eq_true rfl, Nat.le_of_ble_eq_true rfl⟩ rfl (c_freshSetting I ok) (fun v9 h9 p9 => ?_)
    obtain ⟨I2, fx, yS, e1⟩ := p9
    subst e1
    replace g1 := I2.1
    obtain ⟨y8, y9, y10, y11, y20, yP, yL, yF, yl, yn, ym, yN⟩ := id yS
    obtain ⟨⟨v5, v6, v7, v8, vus, vfp, vlp, vwr⟩, vwl⟩ := id yP
    have hlt := ltR_ok (H := S.1.2.2.2 0) hok (fin S.1 (S.1.2.2.2 0))
    have hH : 8 ≤ S.1.2.2.2 0 ∧ S.1.2.2.2 0 ≤ 60 := by have := hok.2.2.2.2; unfold okStl at this; omega
    obtain ⟨pk, pr, pw⟩ := psf_ok hok hlt hH
    have prg := pk.rng (TT_le hok (Nat.le_refl _))
    have flr := fin_le (x := S.1) (H := S.1.2.2.2 0)
    change RN 97 64 _ _ _ 0 0 _
    dsimp only [Option.toList, List.cons_append, List.nil_append]
    refine r_callv (j2 := 75) hm rfl rfl rfl rfl rfl rfl (by first | assumption | exact (g1.1 _).trans rfl | exact I1 _ (by omega) | exact I2 _ (by omega) | exact I3 _ (by omega) | exact I4 _ (by omega)) (Nat.le_of_ble_eq_true rfl) (Nat.le_of_ble_eq_true rfl) rfl ⟨Nat.le_of_ble_eq_true rfl, Nat.le_of_ble_eq_true rfl, Nat.le_of_ble_eq_true rfl, Nat.le_of_ble_eq_true rfl, Nat.le_of_ble_eq_true rfl⟩ rfl (c_pagesInAll g1 (s := 294) (Or.inl rfl) ht I2.2.2.1 hok y8 yP) (fun v9 h9 p9 => ?_)
    obtain ⟨e1, e2⟩ := p9
    subst e2
    replace e1 := e1.symm
    subst e1
    change RN 97 67 _ _ _ 0 0 _
    dsimp only [Option.toList, List.cons_append, List.nil_append]
    refine r_ireturn hm rfl rfl (by rfl) (Nat.le_of_ble_eq_true rfl) (Nat.le_of_ble_eq_true rfl) ?_
    refine ⟨I2, fx, ?_⟩
    have e9 : aSet S w = pgs S.1 (S.1.2.2.2 0) (fin S.1 (S.1.2.2.2 0)) := by
      unfold aSet
      rw [if_neg (by omega), if_neg (by omega), if_neg (by omega), if_pos (by omega)]
    rw [e9]
    rfl
  by_cases s1_4 : w = 4
  · refine r_tsw hm rfl 68 (fun q => by omega) (fun q => ⟨67, by rw [s1_4]; rfl, rfl⟩) ?_
    refine r_aload_n hm rfl (k := ?_)
    refine r_callv (j2 := 52) hm rfl rfl rfl rfl rfl rfl (by first | assumption | exact (g1.1 _).trans rfl | exact I1 _ (by omega) | exact I2 _ (by omega) | exact I3 _ (by omega) | exact I4 _ (by omega)) (Nat.le_of_ble_eq_true rfl) (Nat.le_of_ble_eq_true rfl) rfl ⟨Nat.le_of_ble_eq_true rfl, Nat.le_of_ble_eq_true rfl, Nat.le_of_ble_eq_true rfl, Nat.le_of_ble_eq_true rfl, Nat.le_of_ble_eq_true rfl⟩ rfl (c_freshSetting I ok) (fun v9 h9 p9 => ?_)
    obtain ⟨I2, fx, yS, e1⟩ := p9
    subst e1
    replace g1 := I2.1
    obtain ⟨y8, y9, y10, y11, y20, yP, yL, yF, yl, yn, ym, yN⟩ := id yS
    obtain ⟨⟨v5, v6, v7, v8, vus, vfp, vlp, vwr⟩, vwl⟩ := id yP
    have hlt := ltR_ok (H := S.1.2.2.2 0) hok (fin S.1 (S.1.2.2.2 0))
    have hH : 8 ≤ S.1.2.2.2 0 ∧ S.1.2.2.2 0 ≤ 60 := by have := hok.2.2.2.2; unfold okStl at this; omega
    obtain ⟨pk, pr, pw⟩ := psf_ok hok hlt hH
    have prg := pk.rng (TT_le hok (Nat.le_refl _))
    have flr := fin_le (x := S.1) (H := S.1.2.2.2 0)
    change RN 97 72 _ _ _ 0 0 _
    dsimp only [Option.toList, List.cons_append, List.nil_append]
    refine r_getR (hm := hm) (hf := rfl) (hd := rfl) (hs := (by first | assumption | exact (g1.1 _).trans rfl | exact I1 _ (by omega) | exact I2 _ (by omega) | exact I3 _ (by omega) | exact I4 _ (by omega))) (hv := (by first | assumption | exact g1.2 _ _ _ rfl | exact I0 _ (by omega) | exact J0 _ (by omega) | exact J1 _ (by omega) | exact J2 _ (by omega) | exact F0 _ (by omega) | exact F1 _ (by omega) | exact F2 _ (by omega) | exact F3 _ (by omega) | exact F4 _ (by omega) | exact P0 _ _ (by omega) (by omega) | exact P1 _ _ (by omega) (by omega) | exact P2 _ _ (by omega) (by omega))) (k := ?_)
    refine r_getR (hm := hm) (hf := rfl) (hd := rfl) (hs := (by first | assumption | exact (g1.1 _).trans rfl | exact I1 _ (by omega) | exact I2 _ (by omega) | exact I3 _ (by omega) | exact I4 _ (by omega))) (hv := (by first | assumption | exact g1.2 _ _ _ rfl | exact I0 _ (by omega) | exact J0 _ (by omega) | exact J1 _ (by omega) | exact J2 _ (by omega) | exact F0 _ (by omega) | exact F1 _ (by omega) | exact F2 _ (by omega) | exact F3 _ (by omega) | exact F4 _ (by omega) | exact P0 _ _ (by omega) (by omega) | exact P1 _ _ (by omega) (by omega) | exact P2 _ _ (by omega) (by omega))) (k := ?_)
    refine r_callv (j2 := 62) hm rfl rfl rfl rfl rfl rfl (by first | assumption | exact (g1.1 _).trans rfl | exact I1 _ (by omega) | exact I2 _ (by omega) | exact I3 _ (by omega) | exact I4 _ (by omega)) (Nat.le_of_ble_eq_true rfl) (Nat.le_of_ble_eq_true rfl) rfl ⟨Nat.le_of_ble_eq_true rfl, Nat.le_of_ble_eq_true rfl, Nat.le_of_ble_eq_true rfl, Nat.le_of_ble_eq_true rfl, Nat.le_of_ble_eq_true rfl⟩ rfl (c_takenOfLast (p := 296) g1 (Or.inl rfl) hH yP prg) (fun v9 h9 p9 => ?_)
    obtain ⟨e1, e2⟩ := p9
    subst e2
    replace e1 := e1.symm
    subst e1
    change RN 97 81 _ _ _ 0 0 _
    dsimp only [Option.toList, List.cons_append, List.nil_append]
    refine r_ireturn hm rfl rfl (by rfl) (Nat.le_of_ble_eq_true rfl) (Nat.le_of_ble_eq_true rfl) ?_
    refine ⟨I2, fx, ?_⟩
    unfold aSet
    rw [if_neg (by omega), if_neg (by omega), if_neg (by omega), if_neg (by omega), if_pos (by omega)]
    try rfl
  refine r_tsw hm rfl 82 (fun q => rfl) (fun q => by exfalso; omega) ?_
  refine r_sipush hm rfl (k := ?_)
  refine r_ireturn hm rfl rfl (by rfl) (Nat.le_of_ble_eq_true rfl) (Nat.le_of_ble_eq_true rfl) ?_
  refine ⟨I, FxC.refl, ?_⟩
  unfold aSet
  rw [if_neg (by omega), if_neg (by omega), if_neg (by omega), if_neg (by omega), if_neg (by omega)]
  try rfl
set_option maxRecDepth 8000 in
theorem c_page {L : Nat} {h : Hp} {S : St} (I : InvC L h S) (ok : okS S) {i w : Int} : RN 98 0 [some (.inr (.inr (some (28)))), some (.inl i), some (.inl w)] [] h 0 0 (fun v h2 => InvC L h2 S ∧ FxC h h2 ∧ v = some (.inl (aPage S i w))) := by
  have hm : mrec 98 = some nM98 := rfl
  obtain ⟨g, C, hR, hV, hK, hG, hSt, hL, hB, hFl⟩ := id I
  have hok := ok.1
  have ht : isT 29 := Or.inl rfl
  obtain ⟨T1, T2, T3, T4, T5, T6, T7⟩ := g.tx ht
  obtain ⟨I0, I1, I2, I3, I4, J0, J1, J2, F0, F1, F2, F3, F4, P0, P1, P2⟩ := hR.use g ht
  obtain ⟨R1, R2, R3, R4, R5, R6, R7⟩ := id hR
  have n60 := hok.1
  have g1 := g
  refine r_aload_n hm rfl (k := ?_)
  refine r_getR (hm := hm) (hf := rfl) (hd := rfl) (hs := (by first | assumption | exact (g1.1 _).trans rfl | exact I1 _ (by omega) | exact I2 _ (by omega) | exact I3 _ (by omega) | exact I4 _ (by omega))) (hv := (by first | assumption | exact g1.2 _ _ _ rfl | exact I0 _ (by omega) | exact J0 _ (by omega) | exact J1 _ (by omega) | exact J2 _ (by omega) | exact F0 _ (by omega) | exact F1 _ (by omega) | exact F2 _ (by omega) | exact F3 _ (by omega) | exact F4 _ (by omega) | exact P0 _ _ (by omega) (by omega) | exact P1 _ _ (by omega) (by omega) | exact P2 _ _ (by omega) (by omega) | exact yL.1 _ (by omega) | exact vfp _ (by have := pr q (by omega); omega) | exact vlp _ (by have := pr q (by omega); omega))) (k := ?_)
  refine r_iload_n hm rfl (k := ?_)
  refine r_callv (j2 := 22) hm rfl rfl rfl rfl rfl rfl (by first | assumption | exact (g1.1 _).trans rfl | exact I1 _ (by omega) | exact I2 _ (by omega) | exact I3 _ (by omega) | exact I4 _ (by omega)) (Nat.le_of_ble_eq_true rfl) (Nat.le_of_ble_eq_true rfl) rfl ⟨Nat.le_of_ble_eq_true rfl, Nat.le_of_ble_eq_true rfl, Nat.le_of_ble_eq_true rfl, Nat.le_of_ble_eq_true rfl, Nat.le_of_ble_eq_true rfl⟩ rfl (c_has g ht hR) (fun v9 h9 p9 => ?_)
  obtain ⟨e1, e2⟩ := p9
  subst e2
  replace e1 := e1.symm
  subst e1
  obtain ⟨b9, eb9, hb9⟩ := ite01 (p := 0 ≤ i ∧ i < (S.1.1 : Int))
  rw [eb9]
  change RN 98 8 _ _ _ 0 0 _
  dsimp only [Option.toList, List.cons_append, List.nil_append]
  refine r_if_ne (t := 15) hm rfl rfl (fun c8 => ?_) (fun c8 => ?_)
  · obtain ⟨q, rfl⟩ := Int.eq_ofNat_of_zero_le (show 0 ≤ i by omega)
    refine r_iload_n hm rfl (k := ?_)
    by_cases s16_0 : w = 0
    · refine r_tsw hm rfl 44 (fun q => by omega) (fun q => ⟨28, by rw [s16_0]; rfl, rfl⟩) ?_
      refine r_aload_n hm rfl (k := ?_)
      refine r_callv (j2 := 52) hm rfl rfl rfl rfl rfl rfl (by first | assumption | exact (g1.1 _).trans rfl | exact I1 _ (by omega) | exact I2 _ (by omega) | exact I3 _ (by omega) | exact I4 _ (by omega)) (Nat.le_of_ble_eq_true rfl) (Nat.le_of_ble_eq_true rfl) rfl ⟨Nat.le_of_ble_eq_true rfl, Nat.le_of_ble_eq_true rfl, Nat.le_of_ble_eq_true rfl, Nat.le_of_ble_eq_true rfl, Nat.le_of_ble_eq_true rfl⟩ rfl (c_freshSetting I ok) (fun v9 h9 p9 => ?_)
      obtain ⟨I2, fx, yS, e1⟩ := p9
      subst e1
      replace g1 := I2.1
      obtain ⟨y8, y9, y10, y11, y20, yP, yL, yF, yl, yn, ym, yN⟩ := id yS
      obtain ⟨⟨v5, v6, v7, v8, vus, vfp, vlp, vwr⟩, vwl⟩ := id yP
      have hlt := ltR_ok (H := S.1.2.2.2 0) hok (fin S.1 (S.1.2.2.2 0))
      have hH : 8 ≤ S.1.2.2.2 0 ∧ S.1.2.2.2 0 ≤ 60 := by have := hok.2.2.2.2; unfold okStl at this; omega
      obtain ⟨pk, pr, pw⟩ := psf_ok hok hlt hH
      have prg := pk.rng (TT_le hok (Nat.le_refl _))
      have flr := fin_le (x := S.1) (H := S.1.2.2.2 0)
      change RN 98 48 _ _ _ 0 0 _
      dsimp only [Option.toList, List.cons_append, List.nil_append]
      refine r_getR (hm := hm) (hf := rfl) (hd := rfl) (hs := (by first | assumption | exact (g1.1 _).trans rfl | exact I1 _ (by omega) | exact I2 _ (by omega) | exact I3 _ (by omega) | exact I4 _ (by omega))) (hv := (by first | assumption | exact g1.2 _ _ _ rfl | exact I0 _ (by omega) | exact J0 _ (by omega) | exact J1 _ (by omega) | exact J2 _ (by omega) | exact F0 _ (by omega) | exact F1 _ (by omega) | exact F2 _ (by omega) | exact F3 _ (by omega) | exact F4 _ (by omega) | exact P0 _ _ (by omega) (by omega) | exact P1 _ _ (by omega) (by omega) | exact P2 _ _ (by omega) (by omega) | exact yL.1 _ (by omega) | exact vfp _ (by have := pr q (by omega); omega) | exact vlp _ (by have := pr q (by omega); omega))) (k := ?_)
      refine r_getR (hm := hm) (hf := rfl) (hd := rfl) (hs := (by first | assumption | exact (g1.1 _).trans rfl | exact I1 _ (by omega) | exact I2 _ (by omega) | exact I3 _ (by omega) | exact I4 _ (by omega))) (hv := (by first | assumption | exact g1.2 _ _ _ rfl | exact I0 _ (by omega) | exact J0 _ (by omega) | exact J1 _ (by omega) | exact J2 _ (by omega) | exact F0 _ (by omega) | exact F1 _ (by omega) | exact F2 _ (by omega) | exact F3 _ (by omega) | exact F4 _ (by omega) | exact P0 _ _ (by omega) (by omega) | exact P1 _ _ (by omega) (by omega) | exact P2 _ _ (by omega) (by omega) | exact yL.1 _ (by omega) | exact vfp _ (by have := pr q (by omega); omega) | exact vlp _ (by have := pr q (by omega); omega))) (k := ?_)
      refine r_getR (hm := hm) (hf := rfl) (hd := rfl) (hs := (by first | assumption | exact (g1.1 _).trans rfl | exact I1 _ (by omega) | exact I2 _ (by omega) | exact I3 _ (by omega) | exact I4 _ (by omega))) (hv := (by first | assumption | exact g1.2 _ _ _ rfl | exact I0 _ (by omega) | exact J0 _ (by omega) | exact J1 _ (by omega) | exact J2 _ (by omega) | exact F0 _ (by omega) | exact F1 _ (by omega) | exact F2 _ (by omega) | exact F3 _ (by omega) | exact F4 _ (by omega) | exact P0 _ _ (by omega) (by omega) | exact P1 _ _ (by omega) (by omega) | exact P2 _ _ (by omega) (by omega) | exact yL.1 _ (by omega) | exact vfp _ (by have := pr q (by omega); omega) | exact vlp _ (by have := pr q (by omega); omega))) (k := ?_)
      refine r_iload_n hm rfl (k := ?_)
      refine r_iald (hm := hm) (hf := rfl) (hs := (by first | assumption | exact (g1.1 _).trans rfl | exact I1 _ (by omega) | exact I2 _ (by omega) | exact I3 _ (by omega) | exact I4 _ (by omega))) (hi := rfl) (hn := (by omega)) (hv := (by first | assumption | exact g1.2 _ _ _ rfl | exact I0 _ (by omega) | exact J0 _ (by omega) | exact J1 _ (by omega) | exact J2 _ (by omega) | exact F0 _ (by omega) | exact F1 _ (by omega) | exact F2 _ (by omega) | exact F3 _ (by omega) | exact F4 _ (by omega) | exact P0 _ _ (by omega) (by omega) | exact P1 _ _ (by omega) (by omega) | exact P2 _ _ (by omega) (by omega) | exact yL.1 _ (by omega) | exact vfp _ (by have := pr q (by omega); omega) | exact vlp _ (by have := pr q (by omega); omega))) (k := ?_)
      refine r_ireturn hm rfl rfl (by rfl) (Nat.le_of_ble_eq_true rfl) (Nat.le_of_ble_eq_true rfl) ?_
      refine ⟨I2, fx, ?_⟩
      unfold aPage
      rw [if_neg (by omega), if_pos (by omega)]
      try rfl
    by_cases s16_1 : w = 1
    · refine r_tsw hm rfl 60 (fun q => by omega) (fun q => ⟨44, by rw [s16_1]; rfl, rfl⟩) ?_
      refine r_aload_n hm rfl (k := ?_)
      refine r_callv (j2 := 52) hm rfl rfl rfl rfl rfl rfl (by first | assumption | exact (g1.1 _).trans rfl | exact I1 _ (by omega) | exact I2 _ (by omega) | exact I3 _ (by omega) | exact I4 _ (by omega)) (Nat.le_of_ble_eq_true rfl) (Nat.le_of_ble_eq_true rfl) rfl ⟨Nat.le_of_ble_eq_true rfl, Nat.le_of_ble_eq_true rfl, Nat.le_of_ble_eq_true rfl, Nat.le_of_ble_eq_true rfl, Nat.le_of_ble_eq_true rfl⟩ rfl (c_freshSetting I ok) (fun v9 h9 p9 => ?_)
      obtain ⟨I2, fx, yS, e1⟩ := p9
      subst e1
      replace g1 := I2.1
      obtain ⟨y8, y9, y10, y11, y20, yP, yL, yF, yl, yn, ym, yN⟩ := id yS
      obtain ⟨⟨v5, v6, v7, v8, vus, vfp, vlp, vwr⟩, vwl⟩ := id yP
      have hlt := ltR_ok (H := S.1.2.2.2 0) hok (fin S.1 (S.1.2.2.2 0))
      have hH : 8 ≤ S.1.2.2.2 0 ∧ S.1.2.2.2 0 ≤ 60 := by have := hok.2.2.2.2; unfold okStl at this; omega
      obtain ⟨pk, pr, pw⟩ := psf_ok hok hlt hH
      have prg := pk.rng (TT_le hok (Nat.le_refl _))
      have flr := fin_le (x := S.1) (H := S.1.2.2.2 0)
      change RN 98 64 _ _ _ 0 0 _
      dsimp only [Option.toList, List.cons_append, List.nil_append]
      refine r_getR (hm := hm) (hf := rfl) (hd := rfl) (hs := (by first | assumption | exact (g1.1 _).trans rfl | exact I1 _ (by omega) | exact I2 _ (by omega) | exact I3 _ (by omega) | exact I4 _ (by omega))) (hv := (by first | assumption | exact g1.2 _ _ _ rfl | exact I0 _ (by omega) | exact J0 _ (by omega) | exact J1 _ (by omega) | exact J2 _ (by omega) | exact F0 _ (by omega) | exact F1 _ (by omega) | exact F2 _ (by omega) | exact F3 _ (by omega) | exact F4 _ (by omega) | exact P0 _ _ (by omega) (by omega) | exact P1 _ _ (by omega) (by omega) | exact P2 _ _ (by omega) (by omega) | exact yL.1 _ (by omega) | exact vfp _ (by have := pr q (by omega); omega) | exact vlp _ (by have := pr q (by omega); omega))) (k := ?_)
      refine r_getR (hm := hm) (hf := rfl) (hd := rfl) (hs := (by first | assumption | exact (g1.1 _).trans rfl | exact I1 _ (by omega) | exact I2 _ (by omega) | exact I3 _ (by omega) | exact I4 _ (by omega))) (hv := (by first | assumption | exact g1.2 _ _ _ rfl | exact I0 _ (by omega) | exact J0 _ (by omega) | exact J1 _ (by omega) | exact J2 _ (by omega) | exact F0 _ (by omega) | exact F1 _ (by omega) | exact F2 _ (by omega) | exact F3 _ (by omega) | exact F4 _ (by omega) | exact P0 _ _ (by omega) (by omega) | exact P1 _ _ (by omega) (by omega) | exact P2 _ _ (by omega) (by omega) | exact yL.1 _ (by omega) | exact vfp _ (by have := pr q (by omega); omega) | exact vlp _ (by have := pr q (by omega); omega))) (k := ?_)
      refine r_iload_n hm rfl (k := ?_)
      refine r_iald (hm := hm) (hf := rfl) (hs := (by first | assumption | exact (g1.1 _).trans rfl | exact I1 _ (by omega) | exact I2 _ (by omega) | exact I3 _ (by omega) | exact I4 _ (by omega))) (hi := rfl) (hn := (by omega)) (hv := (by first | assumption | exact g1.2 _ _ _ rfl | exact I0 _ (by omega) | exact J0 _ (by omega) | exact J1 _ (by omega) | exact J2 _ (by omega) | exact F0 _ (by omega) | exact F1 _ (by omega) | exact F2 _ (by omega) | exact F3 _ (by omega) | exact F4 _ (by omega) | exact P0 _ _ (by omega) (by omega) | exact P1 _ _ (by omega) (by omega) | exact P2 _ _ (by omega) (by omega) | exact yL.1 _ (by omega) | exact vfp _ (by have := pr q (by omega); omega) | exact vlp _ (by have := pr q (by omega); omega))) (k := ?_)
      refine r_ireturn hm rfl rfl (by rfl) (Nat.le_of_ble_eq_true rfl) (Nat.le_of_ble_eq_true rfl) ?_
      refine ⟨I2, fx, ?_⟩
      unfold aPage
      rw [if_neg (by omega), if_neg (by omega), if_pos (by omega)]
      try rfl
    by_cases s16_2 : w = 2
    · refine r_tsw hm rfl 73 (fun q => by omega) (fun q => ⟨57, by rw [s16_2]; rfl, rfl⟩) ?_
      refine r_aload_n hm rfl (k := ?_)
      refine r_callv (j2 := 52) hm rfl rfl rfl rfl rfl rfl (by first | assumption | exact (g1.1 _).trans rfl | exact I1 _ (by omega) | exact I2 _ (by omega) | exact I3 _ (by omega) | exact I4 _ (by omega)) (Nat.le_of_ble_eq_true rfl) (Nat.le_of_ble_eq_true rfl) rfl ⟨Nat.le_of_ble_eq_true rfl, Nat.le_of_ble_eq_true rfl, Nat.le_of_ble_eq_true rfl, Nat.le_of_ble_eq_true rfl, Nat.le_of_ble_eq_true rfl⟩ rfl (c_freshSetting I ok) (fun v9 h9 p9 => ?_)
      obtain ⟨I2, fx, yS, e1⟩ := p9
      subst e1
      replace g1 := I2.1
      obtain ⟨y8, y9, y10, y11, y20, yP, yL, yF, yl, yn, ym, yN⟩ := id yS
      obtain ⟨⟨v5, v6, v7, v8, vus, vfp, vlp, vwr⟩, vwl⟩ := id yP
      have hlt := ltR_ok (H := S.1.2.2.2 0) hok (fin S.1 (S.1.2.2.2 0))
      have hH : 8 ≤ S.1.2.2.2 0 ∧ S.1.2.2.2 0 ≤ 60 := by have := hok.2.2.2.2; unfold okStl at this; omega
      obtain ⟨pk, pr, pw⟩ := psf_ok hok hlt hH
      have prg := pk.rng (TT_le hok (Nat.le_refl _))
      have flr := fin_le (x := S.1) (H := S.1.2.2.2 0)
      change RN 98 77 _ _ _ 0 0 _
      dsimp only [Option.toList, List.cons_append, List.nil_append]
      refine r_getR (hm := hm) (hf := rfl) (hd := rfl) (hs := (by first | assumption | exact (g1.1 _).trans rfl | exact I1 _ (by omega) | exact I2 _ (by omega) | exact I3 _ (by omega) | exact I4 _ (by omega))) (hv := (by first | assumption | exact g1.2 _ _ _ rfl | exact I0 _ (by omega) | exact J0 _ (by omega) | exact J1 _ (by omega) | exact J2 _ (by omega) | exact F0 _ (by omega) | exact F1 _ (by omega) | exact F2 _ (by omega) | exact F3 _ (by omega) | exact F4 _ (by omega) | exact P0 _ _ (by omega) (by omega) | exact P1 _ _ (by omega) (by omega) | exact P2 _ _ (by omega) (by omega) | exact yL.1 _ (by omega) | exact vfp _ (by have := pr q (by omega); omega) | exact vlp _ (by have := pr q (by omega); omega))) (k := ?_)
      refine r_getR (hm := hm) (hf := rfl) (hd := rfl) (hs := (by first | assumption | exact (g1.1 _).trans rfl | exact I1 _ (by omega) | exact I2 _ (by omega) | exact I3 _ (by omega) | exact I4 _ (by omega))) (hv := (by first | assumption | exact g1.2 _ _ _ rfl | exact I0 _ (by omega) | exact J0 _ (by omega) | exact J1 _ (by omega) | exact J2 _ (by omega) | exact F0 _ (by omega) | exact F1 _ (by omega) | exact F2 _ (by omega) | exact F3 _ (by omega) | exact F4 _ (by omega) | exact P0 _ _ (by omega) (by omega) | exact P1 _ _ (by omega) (by omega) | exact P2 _ _ (by omega) (by omega) | exact yL.1 _ (by omega) | exact vfp _ (by have := pr q (by omega); omega) | exact vlp _ (by have := pr q (by omega); omega))) (k := ?_)
      refine r_getR (hm := hm) (hf := rfl) (hd := rfl) (hs := (by first | assumption | exact (g1.1 _).trans rfl | exact I1 _ (by omega) | exact I2 _ (by omega) | exact I3 _ (by omega) | exact I4 _ (by omega))) (hv := (by first | assumption | exact g1.2 _ _ _ rfl | exact I0 _ (by omega) | exact J0 _ (by omega) | exact J1 _ (by omega) | exact J2 _ (by omega) | exact F0 _ (by omega) | exact F1 _ (by omega) | exact F2 _ (by omega) | exact F3 _ (by omega) | exact F4 _ (by omega) | exact P0 _ _ (by omega) (by omega) | exact P1 _ _ (by omega) (by omega) | exact P2 _ _ (by omega) (by omega) | exact yL.1 _ (by omega) | exact vfp _ (by have := pr q (by omega); omega) | exact vlp _ (by have := pr q (by omega); omega))) (k := ?_)
      refine r_iload_n hm rfl (k := ?_)
      refine r_iald (hm := hm) (hf := rfl) (hs := (by first | assumption | exact (g1.1 _).trans rfl | exact I1 _ (by omega) | exact I2 _ (by omega) | exact I3 _ (by omega) | exact I4 _ (by omega))) (hi := rfl) (hn := (by omega)) (hv := (by first | assumption | exact g1.2 _ _ _ rfl | exact I0 _ (by omega) | exact J0 _ (by omega) | exact J1 _ (by omega) | exact J2 _ (by omega) | exact F0 _ (by omega) | exact F1 _ (by omega) | exact F2 _ (by omega) | exact F3 _ (by omega) | exact F4 _ (by omega) | exact P0 _ _ (by omega) (by omega) | exact P1 _ _ (by omega) (by omega) | exact P2 _ _ (by omega) (by omega) | exact yL.1 _ (by omega) | exact vfp _ (by have := pr q (by omega); omega) | exact vlp _ (by have := pr q (by omega); omega))) (k := ?_)
      refine r_ireturn hm rfl rfl (by rfl) (Nat.le_of_ble_eq_true rfl) (Nat.le_of_ble_eq_true rfl) ?_
      refine ⟨I2, fx, ?_⟩
      unfold aPage
      rw [if_neg (by omega), if_neg (by omega), if_neg (by omega), if_pos (by omega)]
      try rfl
    refine r_tsw hm rfl 89 (fun q => rfl) (fun q => by exfalso; omega) ?_
    refine r_sipush hm rfl (k := ?_)
    refine r_ireturn hm rfl rfl (by rfl) (Nat.le_of_ble_eq_true rfl) (Nat.le_of_ble_eq_true rfl) ?_
    refine ⟨I, FxC.refl, ?_⟩
    unfold aPage
    rw [if_neg (by omega), if_neg (by omega), if_neg (by omega), if_neg (by omega)]
    try rfl
  · refine r_sipush hm rfl (k := ?_)
    refine r_ireturn hm rfl rfl (by rfl) (Nat.le_of_ble_eq_true rfl) (Nat.le_of_ble_eq_true rfl) ?_
    refine ⟨I, FxC.refl, ?_⟩
    unfold aPage
    rw [if_pos (by omega)]
set_option maxRecDepth 8000 in
theorem c_used {L : Nat} {h : Hp} {S : St} (I : InvC L h S) (ok : okS S) {p : Int} : RN 99 0 [some (.inr (.inr (some (28)))), some (.inl p), none] [] h 0 0 (fun v h2 => InvC L h2 S ∧ FxC h h2 ∧ v = some (.inl (aUsed S p))) := by
  have hm : mrec 99 = some nM99 := rfl
  obtain ⟨g, C, hR, hV, hK, hG, hSt, hL, hB, hFl⟩ := id I
  have hok := ok.1
  have ht : isT 29 := Or.inl rfl
  obtain ⟨T1, T2, T3, T4, T5, T6, T7⟩ := g.tx ht
  obtain ⟨I0, I1, I2, I3, I4, J0, J1, J2, F0, F1, F2, F3, F4, P0, P1, P2⟩ := hR.use g ht
  obtain ⟨R1, R2, R3, R4, R5, R6, R7⟩ := id hR
  have n60 := hok.1
  have g1 := g
  refine r_aload_n hm rfl (k := ?_)
  refine r_callv (j2 := 52) hm rfl rfl rfl rfl rfl rfl (by first | assumption | exact (g1.1 _).trans rfl | exact I1 _ (by omega) | exact I2 _ (by omega) | exact I3 _ (by omega) | exact I4 _ (by omega)) (Nat.le_of_ble_eq_true rfl) (Nat.le_of_ble_eq_true rfl) rfl ⟨Nat.le_of_ble_eq_true rfl, Nat.le_of_ble_eq_true rfl, Nat.le_of_ble_eq_true rfl, Nat.le_of_ble_eq_true rfl, Nat.le_of_ble_eq_true rfl⟩ rfl (c_freshSetting I ok) (fun v9 h9 p9 => ?_)
  obtain ⟨I2, fx, yS, e1⟩ := p9
  subst e1
  replace g1 := I2.1
  obtain ⟨y8, y9, y10, y11, y20, yP, yL, yF, yl, yn, ym, yN⟩ := id yS
  obtain ⟨⟨v5, v6, v7, v8, vus, vfp, vlp, vwr⟩, vwl⟩ := id yP
  have hlt := ltR_ok (H := S.1.2.2.2 0) hok (fin S.1 (S.1.2.2.2 0))
  have hH : 8 ≤ S.1.2.2.2 0 ∧ S.1.2.2.2 0 ≤ 60 := by have := hok.2.2.2.2; unfold okStl at this; omega
  obtain ⟨pk, pr, pw⟩ := psf_ok hok hlt hH
  have prg := pk.rng (TT_le hok (Nat.le_refl _))
  have flr := fin_le (x := S.1) (H := S.1.2.2.2 0)
  change RN 99 4 _ _ _ 0 0 _
  dsimp only [Option.toList, List.cons_append, List.nil_append]
  refine r_astore_n hm rfl (k := ?_)
  refine r_iload_n hm rfl (k := ?_)
  refine r_iconst hm rfl (k := ?_)
  refine r_icmp_lt (t := 18) hm rfl rfl (fun c7 => ?_) (fun c7 => ?_)
  · refine r_sipush hm rfl (k := ?_)
    refine r_ireturn hm rfl rfl (by rfl) (Nat.le_of_ble_eq_true rfl) (Nat.le_of_ble_eq_true rfl) ?_
    refine ⟨I2, fx, ?_⟩
    unfold aUsed pgs
    rw [if_neg (by omega)]
  · refine r_iload_n hm rfl (k := ?_)
    refine r_aload_n hm rfl (k := ?_)
    refine r_callv (j2 := 75) hm rfl rfl rfl rfl rfl rfl (by first | assumption | exact (g1.1 _).trans rfl | exact I1 _ (by omega) | exact I2 _ (by omega) | exact I3 _ (by omega) | exact I4 _ (by omega)) (Nat.le_of_ble_eq_true rfl) (Nat.le_of_ble_eq_true rfl) rfl ⟨Nat.le_of_ble_eq_true rfl, Nat.le_of_ble_eq_true rfl, Nat.le_of_ble_eq_true rfl, Nat.le_of_ble_eq_true rfl, Nat.le_of_ble_eq_true rfl⟩ rfl (c_pagesInAll g1 (s := 294) (Or.inl rfl) ht I2.2.2.1 hok y8 yP) (fun v9 h9 p9 => ?_)
    obtain ⟨e1, e2⟩ := p9
    subst e2
    replace e1 := e1.symm
    subst e1
    have hpg : (if S.1.1 = 0 then 0 else ((psf S.1 (S.1.2.2.2 0) (ltR S.1 (S.1.2.2.2 0) (fin S.1 (S.1.2.2.2 0)))).1 : Int)) ≤ 1250 := by split <;> omega
    change RN 99 15 _ _ _ 0 0 _
    dsimp only [Option.toList, List.cons_append, List.nil_append]
    refine r_icmp_le (t := 22) hm rfl rfl (fun c15 => ?_) (fun c15 => ?_)
    · have hpl : p.toNat ≤ (psf S.1 (S.1.2.2.2 0) (ltR S.1 (S.1.2.2.2 0) (fin S.1 (S.1.2.2.2 0)))).1 := by
        have c9 : p ≤ (if S.1.1 = 0 then 0 else ((psf S.1 (S.1.2.2.2 0) (ltR S.1 (S.1.2.2.2 0) (fin S.1 (S.1.2.2.2 0)))).1 : Int)) := c15
        split at c9 <;> omega
      refine r_aload_n hm rfl (k := ?_)
      refine r_getR (hm := hm) (hf := rfl) (hd := rfl) (hs := (by first | assumption | exact (g1.1 _).trans rfl | exact I1 _ (by omega) | exact I2 _ (by omega) | exact I3 _ (by omega) | exact I4 _ (by omega))) (hv := (by first | assumption | exact g1.2 _ _ _ rfl | exact I0 _ (by omega) | exact J0 _ (by omega) | exact J1 _ (by omega) | exact J2 _ (by omega) | exact F0 _ (by omega) | exact F1 _ (by omega) | exact F2 _ (by omega) | exact F3 _ (by omega) | exact F4 _ (by omega) | exact P0 _ _ (by omega) (by omega) | exact P1 _ _ (by omega) (by omega) | exact P2 _ _ (by omega) (by omega) | exact vus _ (by omega) (by omega))) (k := ?_)
      refine r_getR (hm := hm) (hf := rfl) (hd := rfl) (hs := (by first | assumption | exact (g1.1 _).trans rfl | exact I1 _ (by omega) | exact I2 _ (by omega) | exact I3 _ (by omega) | exact I4 _ (by omega))) (hv := (by first | assumption | exact g1.2 _ _ _ rfl | exact I0 _ (by omega) | exact J0 _ (by omega) | exact J1 _ (by omega) | exact J2 _ (by omega) | exact F0 _ (by omega) | exact F1 _ (by omega) | exact F2 _ (by omega) | exact F3 _ (by omega) | exact F4 _ (by omega) | exact P0 _ _ (by omega) (by omega) | exact P1 _ _ (by omega) (by omega) | exact P2 _ _ (by omega) (by omega) | exact vus _ (by omega) (by omega))) (k := ?_)
      refine r_getR (hm := hm) (hf := rfl) (hd := rfl) (hs := (by first | assumption | exact (g1.1 _).trans rfl | exact I1 _ (by omega) | exact I2 _ (by omega) | exact I3 _ (by omega) | exact I4 _ (by omega))) (hv := (by first | assumption | exact g1.2 _ _ _ rfl | exact I0 _ (by omega) | exact J0 _ (by omega) | exact J1 _ (by omega) | exact J2 _ (by omega) | exact F0 _ (by omega) | exact F1 _ (by omega) | exact F2 _ (by omega) | exact F3 _ (by omega) | exact F4 _ (by omega) | exact P0 _ _ (by omega) (by omega) | exact P1 _ _ (by omega) (by omega) | exact P2 _ _ (by omega) (by omega) | exact vus _ (by omega) (by omega))) (k := ?_)
      refine r_iload_n hm rfl (k := ?_)
      refine r_iald (hm := hm) (hf := rfl) (hs := (by first | assumption | exact (g1.1 _).trans rfl | exact I1 _ (by omega) | exact I2 _ (by omega) | exact I3 _ (by omega) | exact I4 _ (by omega))) (kk := p.toNat) (hi := by omega) (hn := (by omega)) (hv := (by first | assumption | exact g1.2 _ _ _ rfl | exact I0 _ (by omega) | exact J0 _ (by omega) | exact J1 _ (by omega) | exact J2 _ (by omega) | exact F0 _ (by omega) | exact F1 _ (by omega) | exact F2 _ (by omega) | exact F3 _ (by omega) | exact F4 _ (by omega) | exact P0 _ _ (by omega) (by omega) | exact P1 _ _ (by omega) (by omega) | exact P2 _ _ (by omega) (by omega) | exact vus _ (by omega) (by omega))) (k := ?_)
      refine r_ireturn hm rfl rfl (by rfl) (Nat.le_of_ble_eq_true rfl) (Nat.le_of_ble_eq_true rfl) ?_
      refine ⟨I2, fx, ?_⟩
      unfold aUsed pgs
      rw [if_pos (by omega)]
    · refine r_sipush hm rfl (k := ?_)
      refine r_ireturn hm rfl rfl (by rfl) (Nat.le_of_ble_eq_true rfl) (Nat.le_of_ble_eq_true rfl) ?_
      refine ⟨I2, fx, ?_⟩
      unfold aUsed pgs
      rw [if_neg (by omega)]
set_option maxRecDepth 8000 in
theorem c_round {L : Nat} {h : Hp} {S : St} (I : InvC L h S) (ok : okS S) {r9 : Int} : RN 100 0 [some (.inr (.inr (some (28)))), some (.inl r9), none] [] h 0 0 (fun v h2 => InvC L h2 S ∧ FxC h h2 ∧ v = some (.inl (aRound S r9))) := by
  have hm : mrec 100 = some nM100 := rfl
  obtain ⟨g, C, hR, hV, hK, hG, hSt, hL, hB, hFl⟩ := id I
  have hok := ok.1
  have ht : isT 29 := Or.inl rfl
  obtain ⟨T1, T2, T3, T4, T5, T6, T7⟩ := g.tx ht
  obtain ⟨I0, I1, I2, I3, I4, J0, J1, J2, F0, F1, F2, F3, F4, P0, P1, P2⟩ := hR.use g ht
  obtain ⟨R1, R2, R3, R4, R5, R6, R7⟩ := id hR
  have n60 := hok.1
  have g1 := g
  refine r_aload_n hm rfl (k := ?_)
  refine r_callv (j2 := 52) hm rfl rfl rfl rfl rfl rfl (by first | assumption | exact (g1.1 _).trans rfl | exact I1 _ (by omega) | exact I2 _ (by omega) | exact I3 _ (by omega) | exact I4 _ (by omega)) (Nat.le_of_ble_eq_true rfl) (Nat.le_of_ble_eq_true rfl) rfl ⟨Nat.le_of_ble_eq_true rfl, Nat.le_of_ble_eq_true rfl, Nat.le_of_ble_eq_true rfl, Nat.le_of_ble_eq_true rfl, Nat.le_of_ble_eq_true rfl⟩ rfl (c_freshSetting I ok) (fun v9 h9 p9 => ?_)
  obtain ⟨I2, fx, yS, e1⟩ := p9
  subst e1
  replace g1 := I2.1
  obtain ⟨y8, y9, y10, y11, y20, yP, yL, yF, yl, yn, ym, yN⟩ := id yS
  obtain ⟨⟨v5, v6, v7, v8, vus, vfp, vlp, vwr⟩, vwl⟩ := id yP
  have hlt := ltR_ok (H := S.1.2.2.2 0) hok (fin S.1 (S.1.2.2.2 0))
  have hH : 8 ≤ S.1.2.2.2 0 ∧ S.1.2.2.2 0 ≤ 60 := by have := hok.2.2.2.2; unfold okStl at this; omega
  obtain ⟨pk, pr, pw⟩ := psf_ok hok hlt hH
  have prg := pk.rng (TT_le hok (Nat.le_refl _))
  have flr := fin_le (x := S.1) (H := S.1.2.2.2 0)
  change RN 100 4 _ _ _ 0 0 _
  dsimp only [Option.toList, List.cons_append, List.nil_append]
  refine r_astore_n hm rfl (k := ?_)
  refine r_iload_n hm rfl (k := ?_)
  refine r_if_lt (t := 17) hm rfl rfl (fun c6 => ?_) (fun c6 => ?_)
  · refine r_sipush hm rfl (k := ?_)
    refine r_ireturn hm rfl rfl (by rfl) (Nat.le_of_ble_eq_true rfl) (Nat.le_of_ble_eq_true rfl) ?_
    refine ⟨I2, fx, ?_⟩
    unfold aRound
    rw [if_neg (by omega)]
  · refine r_iload_n hm rfl (k := ?_)
    refine r_aload_n hm rfl (k := ?_)
    refine r_getI (hm := hm) (hf := rfl) (hd := rfl) (hs := (by first | assumption | exact (g1.1 _).trans rfl | exact I1 _ (by omega) | exact I2 _ (by omega) | exact I3 _ (by omega) | exact I4 _ (by omega))) (hv := (by first | assumption | exact g1.2 _ _ _ rfl | exact I0 _ (by omega) | exact J0 _ (by omega) | exact J1 _ (by omega) | exact J2 _ (by omega) | exact F0 _ (by omega) | exact F1 _ (by omega) | exact F2 _ (by omega) | exact F3 _ (by omega) | exact F4 _ (by omega) | exact P0 _ _ (by omega) (by omega) | exact P1 _ _ (by omega) (by omega) | exact P2 _ _ (by omega) (by omega) | exact y20 _ (by omega))) (k := ?_)
    refine r_icmp_le (t := 21) hm rfl rfl (fun c14 => ?_) (fun c14 => ?_)
    · refine r_aload_n hm rfl (k := ?_)
      refine r_getR (hm := hm) (hf := rfl) (hd := rfl) (hs := (by first | assumption | exact (g1.1 _).trans rfl | exact I1 _ (by omega) | exact I2 _ (by omega) | exact I3 _ (by omega) | exact I4 _ (by omega))) (hv := (by first | assumption | exact g1.2 _ _ _ rfl | exact I0 _ (by omega) | exact J0 _ (by omega) | exact J1 _ (by omega) | exact J2 _ (by omega) | exact F0 _ (by omega) | exact F1 _ (by omega) | exact F2 _ (by omega) | exact F3 _ (by omega) | exact F4 _ (by omega) | exact P0 _ _ (by omega) (by omega) | exact P1 _ _ (by omega) (by omega) | exact P2 _ _ (by omega) (by omega) | exact y20 _ (by omega))) (k := ?_)
      refine r_iload_n hm rfl (k := ?_)
      refine r_iald (hm := hm) (hf := rfl) (hs := (by first | assumption | exact (g1.1 _).trans rfl | exact I1 _ (by omega) | exact I2 _ (by omega) | exact I3 _ (by omega) | exact I4 _ (by omega))) (kk := r9.toNat) (hi := by omega) (hn := (by omega)) (hv := (by first | assumption | exact g1.2 _ _ _ rfl | exact I0 _ (by omega) | exact J0 _ (by omega) | exact J1 _ (by omega) | exact J2 _ (by omega) | exact F0 _ (by omega) | exact F1 _ (by omega) | exact F2 _ (by omega) | exact F3 _ (by omega) | exact F4 _ (by omega) | exact P0 _ _ (by omega) (by omega) | exact P1 _ _ (by omega) (by omega) | exact P2 _ _ (by omega) (by omega) | exact y20 _ (by omega))) (k := ?_)
      refine r_ireturn hm rfl rfl (by rfl) (Nat.le_of_ble_eq_true rfl) (Nat.le_of_ble_eq_true rfl) ?_
      refine ⟨I2, fx, ?_⟩
      unfold aRound
      rw [if_pos (by omega)]
    · refine r_sipush hm rfl (k := ?_)
      refine r_ireturn hm rfl rfl (by rfl) (Nat.le_of_ble_eq_true rfl) (Nat.le_of_ble_eq_true rfl) ?_
      refine ⟨I2, fx, ?_⟩
      unfold aRound
      rw [if_neg (by omega)]
set_option maxRecDepth 8000 in
theorem c_list {L : Nat} {h : Hp} {S : St} (I : InvC L h S) (ok : okS S) {i kI : Int} : RN 101 0 [some (.inr (.inr (some (28)))), some (.inl i), some (.inl kI), none] [] h 0 0 (fun v h2 => InvC L h2 S ∧ FxC h h2 ∧ v = some (.inl (aList S i kI))) := by
  have hm : mrec 101 = some nM101 := rfl
  obtain ⟨g, C, hR, hV, hK, hG, hSt, hL, hB, hFl⟩ := id I
  have hok := ok.1
  have ht : isT 29 := Or.inl rfl
  obtain ⟨T1, T2, T3, T4, T5, T6, T7⟩ := g.tx ht
  obtain ⟨I0, I1, I2, I3, I4, J0, J1, J2, F0, F1, F2, F3, F4, P0, P1, P2⟩ := hR.use g ht
  obtain ⟨R1, R2, R3, R4, R5, R6, R7⟩ := id hR
  have n60 := hok.1
  have g1 := g
  refine r_aload_n hm rfl (k := ?_)
  refine r_getR (hm := hm) (hf := rfl) (hd := rfl) (hs := (by first | assumption | exact (g1.1 _).trans rfl | exact I1 _ (by omega) | exact I2 _ (by omega) | exact I3 _ (by omega) | exact I4 _ (by omega))) (hv := (by first | assumption | exact g1.2 _ _ _ rfl | exact I0 _ (by omega) | exact J0 _ (by omega) | exact J1 _ (by omega) | exact J2 _ (by omega) | exact F0 _ (by omega) | exact F1 _ (by omega) | exact F2 _ (by omega) | exact F3 _ (by omega) | exact F4 _ (by omega) | exact P0 _ _ (by omega) (by omega) | exact P1 _ _ (by omega) (by omega) | exact P2 _ _ (by omega) (by omega))) (k := ?_)
  refine r_iload_n hm rfl (k := ?_)
  refine r_callv (j2 := 22) hm rfl rfl rfl rfl rfl rfl (by first | assumption | exact (g1.1 _).trans rfl | exact I1 _ (by omega) | exact I2 _ (by omega) | exact I3 _ (by omega) | exact I4 _ (by omega)) (Nat.le_of_ble_eq_true rfl) (Nat.le_of_ble_eq_true rfl) rfl ⟨Nat.le_of_ble_eq_true rfl, Nat.le_of_ble_eq_true rfl, Nat.le_of_ble_eq_true rfl, Nat.le_of_ble_eq_true rfl, Nat.le_of_ble_eq_true rfl⟩ rfl (c_has g ht hR) (fun v9 h9 p9 => ?_)
  obtain ⟨e1, e2⟩ := p9
  subst e2
  replace e1 := e1.symm
  subst e1
  obtain ⟨b9, eb9, hb9⟩ := ite01 (p := 0 ≤ i ∧ i < (S.1.1 : Int))
  rw [eb9]
  change RN 101 8 _ _ _ 0 0 _
  dsimp only [Option.toList, List.cons_append, List.nil_append]
  refine r_if_ne (t := 15) hm rfl rfl (fun c8 => ?_) (fun c8 => ?_)
  · obtain ⟨q, rfl⟩ := Int.eq_ofNat_of_zero_le (show 0 ≤ i by omega)
    refine r_aload_n hm rfl (k := ?_)
    refine r_getR (hm := hm) (hf := rfl) (hd := rfl) (hs := (by first | assumption | exact (g1.1 _).trans rfl | exact I1 _ (by omega) | exact I2 _ (by omega) | exact I3 _ (by omega) | exact I4 _ (by omega))) (hv := (by first | assumption | exact g1.2 _ _ _ rfl | exact I0 _ (by omega) | exact J0 _ (by omega) | exact J1 _ (by omega) | exact J2 _ (by omega) | exact F0 _ (by omega) | exact F1 _ (by omega) | exact F2 _ (by omega) | exact F3 _ (by omega) | exact F4 _ (by omega) | exact P0 _ _ (by omega) (by omega) | exact P1 _ _ (by omega) (by omega) | exact P2 _ _ (by omega) (by omega))) (k := ?_)
    refine r_getR (hm := hm) (hf := rfl) (hd := rfl) (hs := (by first | assumption | exact (g1.1 _).trans rfl | exact I1 _ (by omega) | exact I2 _ (by omega) | exact I3 _ (by omega) | exact I4 _ (by omega))) (hv := (by first | assumption | exact g1.2 _ _ _ rfl | exact I0 _ (by omega) | exact J0 _ (by omega) | exact J1 _ (by omega) | exact J2 _ (by omega) | exact F0 _ (by omega) | exact F1 _ (by omega) | exact F2 _ (by omega) | exact F3 _ (by omega) | exact F4 _ (by omega) | exact P0 _ _ (by omega) (by omega) | exact P1 _ _ (by omega) (by omega) | exact P2 _ _ (by omega) (by omega))) (k := ?_)
    refine r_iload_n hm rfl (k := ?_)
    refine r_aald (hm := hm) (hf := rfl) (hs := (by first | assumption | exact (g1.1 _).trans rfl | exact I1 _ (by omega) | exact I2 _ (by omega) | exact I3 _ (by omega) | exact I4 _ (by omega))) (hkd := by decide) (hi := rfl) (hn := (by omega)) (hv := (by first | assumption | exact g1.2 _ _ _ rfl | exact I0 _ (by omega) | exact J0 _ (by omega) | exact J1 _ (by omega) | exact J2 _ (by omega) | exact F0 _ (by omega) | exact F1 _ (by omega) | exact F2 _ (by omega) | exact F3 _ (by omega) | exact F4 _ (by omega) | exact P0 _ _ (by omega) (by omega) | exact P1 _ _ (by omega) (by omega) | exact P2 _ _ (by omega) (by omega))) (k := ?_)
    refine r_astore_n hm rfl (k := ?_)
    refine r_aload_n hm rfl (k := ?_)
    refine r_callv (j2 := 102) hm rfl rfl rfl rfl rfl rfl (by first | assumption | exact (g1.1 _).trans rfl | exact I1 _ (by omega) | exact I2 _ (by omega) | exact I3 _ (by omega) | exact I4 _ (by omega)) (Nat.le_of_ble_eq_true rfl) (Nat.le_of_ble_eq_true rfl) rfl ⟨Nat.le_of_ble_eq_true rfl, Nat.le_of_ble_eq_true rfl, Nat.le_of_ble_eq_true rfl, Nat.le_of_ble_eq_true rfl, Nat.le_of_ble_eq_true rfl⟩ rfl (c_isList g ht hR (i := q) (by omega)) (fun v9 h9 p9 => ?_)
    obtain ⟨e1, e2⟩ := p9
    subst e2
    replace e1 := e1.symm
    subst e1
    obtain ⟨b8, eb8, hb8⟩ := ite01 (p := 4 ≤ S.1.2.1 1 q ∧ S.1.2.1 1 q ≤ 6)
    rw [eb8]
    have hkq := hok.2.1 q (by omega)
    unfold okIt at hkq
    change RN 101 29 _ _ _ 0 0 _
    dsimp only [Option.toList, List.cons_append, List.nil_append]
    refine r_if_ne (t := 36) hm rfl rfl (fun c29 => ?_) (fun c29 => ?_)
    · refine r_aload_n hm rfl (k := ?_)
      refine r_getR (hm := hm) (hf := rfl) (hd := rfl) (hs := (by first | assumption | exact (g1.1 _).trans rfl | exact I1 _ (by omega) | exact I2 _ (by omega) | exact I3 _ (by omega) | exact I4 _ (by omega))) (hv := (by first | assumption | exact g1.2 _ _ _ rfl | exact I0 _ (by omega) | exact J0 _ (by omega) | exact J1 _ (by omega) | exact J2 _ (by omega) | exact F0 _ (by omega) | exact F1 _ (by omega) | exact F2 _ (by omega) | exact F3 _ (by omega) | exact F4 _ (by omega) | exact P0 _ _ (by omega) (by omega) | exact P1 _ _ (by omega) (by omega) | exact P2 _ _ (by omega) (by omega))) (k := ?_)
      refine r_aload_n hm rfl (k := ?_)
      refine r_iload_n hm rfl (k := ?_)
      refine r_callv (j2 := 103) hm rfl rfl rfl rfl rfl rfl (by first | assumption | exact (g1.1 _).trans rfl | exact I1 _ (by omega) | exact I2 _ (by omega) | exact I3 _ (by omega) | exact I4 _ (by omega)) (Nat.le_of_ble_eq_true rfl) (Nat.le_of_ble_eq_true rfl) rfl ⟨Nat.le_of_ble_eq_true rfl, Nat.le_of_ble_eq_true rfl, Nat.le_of_ble_eq_true rfl, Nat.le_of_ble_eq_true rfl, Nat.le_of_ble_eq_true rfl⟩ rfl (c_listed g ht hR (i := q) (by omega)) (fun v9 h9 p9 => ?_)
      obtain ⟨e1, e2⟩ := p9
      subst e2
      replace e1 := e1.symm
      subst e1
      change RN 101 45 _ _ _ 0 0 _
      dsimp only [Option.toList, List.cons_append, List.nil_append]
      refine r_ireturn hm rfl rfl (by rfl) (Nat.le_of_ble_eq_true rfl) (Nat.le_of_ble_eq_true rfl) ?_
      refine ⟨I, FxC.refl, ?_⟩
      unfold aList
      rw [if_neg (by omega), Int.toNat_natCast, if_neg (by omega)]
    · refine r_sipush hm rfl (k := ?_)
      refine r_ireturn hm rfl rfl (by rfl) (Nat.le_of_ble_eq_true rfl) (Nat.le_of_ble_eq_true rfl) ?_
      refine ⟨I, FxC.refl, ?_⟩
      unfold aList
      rw [if_neg (by omega), Int.toNat_natCast, if_pos (by omega)]
  · refine r_sipush hm rfl (k := ?_)
    refine r_ireturn hm rfl rfl (by rfl) (Nat.le_of_ble_eq_true rfl) (Nat.le_of_ble_eq_true rfl) ?_
    refine ⟨I, FxC.refl, ?_⟩
    unfold aList
    rw [if_pos (by omega)]
theorem c_isMark {h : Hp} {m : Int} : RN 26 0 [some (.inl m)] [] h 0 0 (fun v h2 => h2 = h ∧ v = some (.inl (if 0 ≤ m ∧ m ≤ 99 then 1 else 0))) := by
  have hm : mrec 26 = some nM26 := rfl
  refine r_iload_n hm rfl (k := ?_)
  refine r_if_lt (t := 14) hm rfl rfl (fun c1 => ?_) (fun c1 => ?_)
  · refine r_iconst hm rfl (k := ?_)
    refine r_ireturn hm rfl rfl (by first | rfl | decide) (Nat.le_of_ble_eq_true rfl) (Nat.le_of_ble_eq_true rfl) ?_
    exact ⟨rfl, by first | (rw [if_pos (by omega)]; done) | (rw [if_neg (by omega)]; done)⟩
  · refine r_iload_n hm rfl (k := ?_)
    refine r_bipush hm rfl (k := ?_)
    refine r_icmp_ge (t := 14) hm rfl rfl (fun c7 => ?_) (fun c7 => ?_)
    · refine r_iconst hm rfl (k := ?_)
      refine r_ireturn hm rfl rfl (by first | rfl | decide) (Nat.le_of_ble_eq_true rfl) (Nat.le_of_ble_eq_true rfl) ?_
      exact ⟨rfl, by first | (rw [if_pos (by omega)]; done) | (rw [if_neg (by omega)]; done)⟩
    · refine r_iconst hm rfl (k := ?_)
      refine r_goto (t := 15) hm rfl (k := ?_)
      refine r_ireturn hm rfl rfl (by first | rfl | decide) (Nat.le_of_ble_eq_true rfl) (Nat.le_of_ble_eq_true rfl) ?_
      exact ⟨rfl, by first | (rw [if_pos (by omega)]; done) | (rw [if_neg (by omega)]; done)⟩
theorem c_means {L : Nat} {h : Hp} {S : St} (I : InvC L h S) (ok : okS S) {m : Int} : RN 105 0 [some (.inr (.inr (some (28)))), some (.inl m)] [] h 0 0 (fun v h2 => InvC L h2 S ∧ FxC h h2 ∧ v = some (.inl (aMeans S m))) := by
  have hm : mrec 105 = some nM105 := rfl
  obtain ⟨g, C, hR, hV, hK, hG, hSt, hL, hB, hFl⟩ := id I
  have hok := ok.1
  have ht : isT 29 := Or.inl rfl
  obtain ⟨T1, T2, T3, T4, T5, T6, T7⟩ := g.tx ht
  obtain ⟨I0, I1, I2, I3, I4, J0, J1, J2, F0, F1, F2, F3, F4, P0, P1, P2⟩ := hR.use g ht
  obtain ⟨R1, R2, R3, R4, R5, R6, R7⟩ := id hR
  have n60 := hok.1
  have g1 := g
  refine r_iload_n hm rfl (k := ?_)
  refine r_calls (j2 := 26) hm rfl rfl rfl rfl rfl rfl (Nat.le_of_ble_eq_true rfl) (Nat.le_of_ble_eq_true rfl) rfl ⟨Nat.le_of_ble_eq_true rfl, Nat.le_of_ble_eq_true rfl, Nat.le_of_ble_eq_true rfl, Nat.le_of_ble_eq_true rfl, Nat.le_of_ble_eq_true rfl⟩ rfl (c_isMark) (fun v9 h9 p9 => ?_)
  obtain ⟨e1, e2⟩ := p9
  subst e2
  replace e1 := e1.symm
  subst e1
  obtain ⟨b9, eb9, hb9⟩ := ite01 (p := 0 ≤ m ∧ m ≤ 99)
  rw [eb9]
  change RN 105 4 _ _ _ 0 0 _
  dsimp only [Option.toList, List.cons_append, List.nil_append]
  refine r_if_eq (t := 18) hm rfl rfl (fun c4 => ?_) (fun c4 => ?_)
  · refine r_sipush hm rfl (k := ?_)
    refine r_ireturn hm rfl rfl (by rfl) (Nat.le_of_ble_eq_true rfl) (Nat.le_of_ble_eq_true rfl) ?_
    refine ⟨I, FxC.refl, ?_⟩
    unfold aMeans
    first | (rw [if_pos (by omega)]; done) | (rw [if_neg (by omega)]; done)
  · refine r_aload_n hm rfl (k := ?_)
    refine r_getR (hm := hm) (hf := rfl) (hd := rfl) (hs := (by first | assumption | exact (g1.1 _).trans rfl | exact I1 _ (by omega) | exact I2 _ (by omega) | exact I3 _ (by omega) | exact I4 _ (by omega))) (hv := (by first | assumption | exact g1.2 _ _ _ rfl | exact I0 _ (by omega) | exact J0 _ (by omega) | exact J1 _ (by omega) | exact J2 _ (by omega) | exact F0 _ (by omega) | exact F1 _ (by omega) | exact F2 _ (by omega) | exact F3 _ (by omega) | exact F4 _ (by omega) | exact P0 _ _ (by omega) (by omega) | exact P1 _ _ (by omega) (by omega) | exact P2 _ _ (by omega) (by omega))) (k := ?_)
    refine r_iload_n hm rfl (k := ?_)
    refine r_callv (j2 := 51) hm rfl rfl rfl rfl rfl rfl (by first | assumption | exact (g1.1 _).trans rfl | exact I1 _ (by omega) | exact I2 _ (by omega) | exact I3 _ (by omega) | exact I4 _ (by omega)) (Nat.le_of_ble_eq_true rfl) (Nat.le_of_ble_eq_true rfl) rfl ⟨Nat.le_of_ble_eq_true rfl, Nat.le_of_ble_eq_true rfl, Nat.le_of_ble_eq_true rfl, Nat.le_of_ble_eq_true rfl, Nat.le_of_ble_eq_true rfl⟩ rfl (c_meaning g ht hR) (fun v9 h9 p9 => ?_)
    obtain ⟨e1, e2⟩ := p9
    subst e2
    replace e1 := e1.symm
    subst e1
    change RN 105 15 _ _ _ 0 0 _
    dsimp only [Option.toList, List.cons_append, List.nil_append]
    refine r_goto (t := 21) hm rfl (k := ?_)
    refine r_ireturn hm rfl rfl (by rfl) (Nat.le_of_ble_eq_true rfl) (Nat.le_of_ble_eq_true rfl) ?_
    refine ⟨I, FxC.refl, ?_⟩
    unfold aMeans
    first | (rw [if_pos (by omega)]; done) | (rw [if_neg (by omega)]; done)
theorem c_called {L : Nat} {h : Hp} {S : St} (I : InvC L h S) (ok : okS S) {i : Int} : RN 106 0 [some (.inr (.inr (some (28)))), some (.inl i)] [] h 0 0 (fun v h2 => InvC L h2 S ∧ FxC h h2 ∧ v = some (.inl (aCalled S i))) := by
  have hm : mrec 106 = some nM106 := rfl
  obtain ⟨g, C, hR, hV, hK, hG, hSt, hL, hB, hFl⟩ := id I
  have hok := ok.1
  have ht : isT 29 := Or.inl rfl
  obtain ⟨T1, T2, T3, T4, T5, T6, T7⟩ := g.tx ht
  obtain ⟨I0, I1, I2, I3, I4, J0, J1, J2, F0, F1, F2, F3, F4, P0, P1, P2⟩ := hR.use g ht
  obtain ⟨R1, R2, R3, R4, R5, R6, R7⟩ := id hR
  have n60 := hok.1
  have g1 := g
  refine r_aload_n hm rfl (k := ?_)
  refine r_getR (hm := hm) (hf := rfl) (hd := rfl) (hs := (by first | assumption | exact (g1.1 _).trans rfl | exact I1 _ (by omega) | exact I2 _ (by omega) | exact I3 _ (by omega) | exact I4 _ (by omega))) (hv := (by first | assumption | exact g1.2 _ _ _ rfl | exact I0 _ (by omega) | exact J0 _ (by omega) | exact J1 _ (by omega) | exact J2 _ (by omega) | exact F0 _ (by omega) | exact F1 _ (by omega) | exact F2 _ (by omega) | exact F3 _ (by omega) | exact F4 _ (by omega) | exact P0 _ _ (by omega) (by omega) | exact P1 _ _ (by omega) (by omega) | exact P2 _ _ (by omega) (by omega))) (k := ?_)
  refine r_iload_n hm rfl (k := ?_)
  refine r_callv (j2 := 22) hm rfl rfl rfl rfl rfl rfl (by first | assumption | exact (g1.1 _).trans rfl | exact I1 _ (by omega) | exact I2 _ (by omega) | exact I3 _ (by omega) | exact I4 _ (by omega)) (Nat.le_of_ble_eq_true rfl) (Nat.le_of_ble_eq_true rfl) rfl ⟨Nat.le_of_ble_eq_true rfl, Nat.le_of_ble_eq_true rfl, Nat.le_of_ble_eq_true rfl, Nat.le_of_ble_eq_true rfl, Nat.le_of_ble_eq_true rfl⟩ rfl (c_has g ht hR) (fun v9 h9 p9 => ?_)
  obtain ⟨e1, e2⟩ := p9
  subst e2
  replace e1 := e1.symm
  subst e1
  obtain ⟨b9, eb9, hb9⟩ := ite01 (p := 0 ≤ i ∧ i < (S.1.1 : Int))
  rw [eb9]
  change RN 106 8 _ _ _ 0 0 _
  dsimp only [Option.toList, List.cons_append, List.nil_append]
  refine r_if_eq (t := 22) hm rfl rfl (fun c8 => ?_) (fun c8 => ?_)
  · refine r_sipush hm rfl (k := ?_)
    refine r_ireturn hm rfl rfl (by rfl) (Nat.le_of_ble_eq_true rfl) (Nat.le_of_ble_eq_true rfl) ?_
    refine ⟨I, FxC.refl, ?_⟩
    unfold aCalled
    rw [if_pos (by omega)]
  · obtain ⟨q, rfl⟩ := Int.eq_ofNat_of_zero_le (show 0 ≤ i by omega)
    refine r_aload_n hm rfl (k := ?_)
    refine r_getR (hm := hm) (hf := rfl) (hd := rfl) (hs := (by first | assumption | exact (g1.1 _).trans rfl | exact I1 _ (by omega) | exact I2 _ (by omega) | exact I3 _ (by omega) | exact I4 _ (by omega))) (hv := (by first | assumption | exact g1.2 _ _ _ rfl | exact I0 _ (by omega) | exact J0 _ (by omega) | exact J1 _ (by omega) | exact J2 _ (by omega) | exact F0 _ (by omega) | exact F1 _ (by omega) | exact F2 _ (by omega) | exact F3 _ (by omega) | exact F4 _ (by omega) | exact P0 _ _ (by omega) (by omega) | exact P1 _ _ (by omega) (by omega) | exact P2 _ _ (by omega) (by omega))) (k := ?_)
    refine r_iload_n hm rfl (k := ?_)
    refine r_callv (j2 := 107) hm rfl rfl rfl rfl rfl rfl (by first | assumption | exact (g1.1 _).trans rfl | exact I1 _ (by omega) | exact I2 _ (by omega) | exact I3 _ (by omega) | exact I4 _ (by omega)) (Nat.le_of_ble_eq_true rfl) (Nat.le_of_ble_eq_true rfl) rfl ⟨Nat.le_of_ble_eq_true rfl, Nat.le_of_ble_eq_true rfl, Nat.le_of_ble_eq_true rfl, Nat.le_of_ble_eq_true rfl, Nat.le_of_ble_eq_true rfl⟩ rfl (c_countCallsOf g ht hR hok (i := q) (by omega)) (fun v9 h9 p9 => ?_)
    obtain ⟨e1, e2⟩ := p9
    subst e2
    replace e1 := e1.symm
    subst e1
    change RN 106 19 _ _ _ 0 0 _
    dsimp only [Option.toList, List.cons_append, List.nil_append]
    refine r_goto (t := 25) hm rfl (k := ?_)
    refine r_ireturn hm rfl rfl (by rfl) (Nat.le_of_ble_eq_true rfl) (Nat.le_of_ble_eq_true rfl) ?_
    refine ⟨I, FxC.refl, ?_⟩
    unfold aCalled
    rw [if_neg (by omega), Int.toNat_natCast]
    rfl
theorem c_style {L : Nat} {h : Hp} {S : St} (I : InvC L h S) (ok : okS S) {w : Int} : RN 158 0 [some (.inr (.inr (some (28)))), some (.inl w)] [] h 0 0 (fun v h2 => InvC L h2 S ∧ FxC h h2 ∧ v = some (.inl (aStyle S w))) := by
  have hm : mrec 158 = some nM158 := rfl
  obtain ⟨g, C, hR, hV, hK, hG, hSt, hL, hB, hFl⟩ := id I
  have hok := ok.1
  have ht : isT 29 := Or.inl rfl
  obtain ⟨T1, T2, T3, T4, T5, T6, T7⟩ := g.tx ht
  obtain ⟨I0, I1, I2, I3, I4, J0, J1, J2, F0, F1, F2, F3, F4, P0, P1, P2⟩ := hR.use g ht
  obtain ⟨R1, R2, R3, R4, R5, R6, R7⟩ := id hR
  have n60 := hok.1
  have g1 := g
  refine r_iload_n hm rfl (k := ?_)
  refine r_if_lt (t := 10) hm rfl rfl (fun c1 => ?_) (fun c1 => ?_)
  · refine r_sipush hm rfl (k := ?_)
    refine r_goto (t := 28) hm rfl (k := ?_)
    refine r_ireturn hm rfl rfl (by rfl) (Nat.le_of_ble_eq_true rfl) (Nat.le_of_ble_eq_true rfl) ?_
    refine ⟨I, FxC.refl, ?_⟩
    unfold aStyle
    first | (rw [if_pos (by omega)]; done) | (rw [if_neg (by omega)]; done)
  · refine r_iload_n hm rfl (k := ?_)
    refine r_bipush hm rfl (k := ?_)
    refine r_icmp_lt (t := 16) hm rfl rfl (fun c7 => ?_) (fun c7 => ?_)
    · refine r_aload_n hm rfl (k := ?_)
      refine r_getR (hm := hm) (hf := rfl) (hd := rfl) (hs := (by first | assumption | exact (g1.1 _).trans rfl | exact I1 _ (by omega) | exact I2 _ (by omega) | exact I3 _ (by omega) | exact I4 _ (by omega))) (hv := (by first | assumption | exact g1.2 _ _ _ rfl | exact I0 _ (by omega) | exact J0 _ (by omega) | exact J1 _ (by omega) | exact J2 _ (by omega) | exact F0 _ (by omega) | exact F1 _ (by omega) | exact F2 _ (by omega) | exact F3 _ (by omega) | exact F4 _ (by omega) | exact P0 _ _ (by omega) (by omega) | exact P1 _ _ (by omega) (by omega) | exact P2 _ _ (by omega) (by omega) | exact R7 _ (by omega))) (k := ?_)
      refine r_getR (hm := hm) (hf := rfl) (hd := rfl) (hs := (by first | assumption | exact (g1.1 _).trans rfl | exact I1 _ (by omega) | exact I2 _ (by omega) | exact I3 _ (by omega) | exact I4 _ (by omega))) (hv := (by first | assumption | exact g1.2 _ _ _ rfl | exact I0 _ (by omega) | exact J0 _ (by omega) | exact J1 _ (by omega) | exact J2 _ (by omega) | exact F0 _ (by omega) | exact F1 _ (by omega) | exact F2 _ (by omega) | exact F3 _ (by omega) | exact F4 _ (by omega) | exact P0 _ _ (by omega) (by omega) | exact P1 _ _ (by omega) (by omega) | exact P2 _ _ (by omega) (by omega) | exact R7 _ (by omega))) (k := ?_)
      refine r_getR (hm := hm) (hf := rfl) (hd := rfl) (hs := (by first | assumption | exact (g1.1 _).trans rfl | exact I1 _ (by omega) | exact I2 _ (by omega) | exact I3 _ (by omega) | exact I4 _ (by omega))) (hv := (by first | assumption | exact g1.2 _ _ _ rfl | exact I0 _ (by omega) | exact J0 _ (by omega) | exact J1 _ (by omega) | exact J2 _ (by omega) | exact F0 _ (by omega) | exact F1 _ (by omega) | exact F2 _ (by omega) | exact F3 _ (by omega) | exact F4 _ (by omega) | exact P0 _ _ (by omega) (by omega) | exact P1 _ _ (by omega) (by omega) | exact P2 _ _ (by omega) (by omega) | exact R7 _ (by omega))) (k := ?_)
      refine r_iload_n hm rfl (k := ?_)
      refine r_iald (hm := hm) (hf := rfl) (hs := (by first | assumption | exact (g1.1 _).trans rfl | exact I1 _ (by omega) | exact I2 _ (by omega) | exact I3 _ (by omega) | exact I4 _ (by omega))) (kk := w.toNat) (hi := by omega) (hn := (by omega)) (hv := (by first | assumption | exact g1.2 _ _ _ rfl | exact I0 _ (by omega) | exact J0 _ (by omega) | exact J1 _ (by omega) | exact J2 _ (by omega) | exact F0 _ (by omega) | exact F1 _ (by omega) | exact F2 _ (by omega) | exact F3 _ (by omega) | exact F4 _ (by omega) | exact P0 _ _ (by omega) (by omega) | exact P1 _ _ (by omega) (by omega) | exact P2 _ _ (by omega) (by omega) | exact R7 _ (by omega))) (k := ?_)
      refine r_ireturn hm rfl rfl (by rfl) (Nat.le_of_ble_eq_true rfl) (Nat.le_of_ble_eq_true rfl) ?_
      refine ⟨I, FxC.refl, ?_⟩
      unfold aStyle
      first | (rw [if_pos (by omega)]; done) | (rw [if_neg (by omega)]; done)
    · refine r_sipush hm rfl (k := ?_)
      refine r_goto (t := 28) hm rfl (k := ?_)
      refine r_ireturn hm rfl rfl (by rfl) (Nat.le_of_ble_eq_true rfl) (Nat.le_of_ble_eq_true rfl) ?_
      refine ⟨I, FxC.refl, ?_⟩
      unfold aStyle
      first | (rw [if_pos (by omega)]; done) | (rw [if_neg (by omega)]; done)
theorem c_fault {L : Nat} {h : Hp} {S : St} (I : InvC L h S) (ok : okS S) : RN 157 0 [some (.inr (.inr (some (28))))] [] h 0 0 (fun v h2 => InvC L h2 S ∧ FxC h h2 ∧ v = some (.inl (S.2.2.2.2.2.2))) := by
  have hm : mrec 157 = some nM157 := rfl
  obtain ⟨g, C, hR, hV, hK, hG, hSt, hL, hB, hFl⟩ := id I
  have hok := ok.1
  have ht : isT 29 := Or.inl rfl
  obtain ⟨T1, T2, T3, T4, T5, T6, T7⟩ := g.tx ht
  obtain ⟨I0, I1, I2, I3, I4, J0, J1, J2, F0, F1, F2, F3, F4, P0, P1, P2⟩ := hR.use g ht
  obtain ⟨R1, R2, R3, R4, R5, R6, R7⟩ := id hR
  have n60 := hok.1
  have g1 := g
  refine r_aload_n hm rfl (k := ?_)
  refine r_getR (hm := hm) (hf := rfl) (hd := rfl) (hs := (by first | assumption | exact (g1.1 _).trans rfl | exact I1 _ (by omega) | exact I2 _ (by omega) | exact I3 _ (by omega) | exact I4 _ (by omega))) (hv := (by first | assumption | exact g1.2 _ _ _ rfl | exact I0 _ (by omega) | exact J0 _ (by omega) | exact J1 _ (by omega) | exact J2 _ (by omega) | exact F0 _ (by omega) | exact F1 _ (by omega) | exact F2 _ (by omega) | exact F3 _ (by omega) | exact F4 _ (by omega) | exact P0 _ _ (by omega) (by omega) | exact P1 _ _ (by omega) (by omega) | exact P2 _ _ (by omega) (by omega))) (k := ?_)
  refine r_getI (hm := hm) (hf := rfl) (hd := rfl) (hs := (by first | assumption | exact (g1.1 _).trans rfl | exact I1 _ (by omega) | exact I2 _ (by omega) | exact I3 _ (by omega) | exact I4 _ (by omega))) (hv := (by first | assumption | exact g1.2 _ _ _ rfl | exact I0 _ (by omega) | exact J0 _ (by omega) | exact J1 _ (by omega) | exact J2 _ (by omega) | exact F0 _ (by omega) | exact F1 _ (by omega) | exact F2 _ (by omega) | exact F3 _ (by omega) | exact F4 _ (by omega) | exact P0 _ _ (by omega) (by omega) | exact P1 _ _ (by omega) (by omega) | exact P2 _ _ (by omega) (by omega))) (k := ?_)
  refine r_ireturn hm rfl rfl (by rfl) (Nat.le_of_ble_eq_true rfl) (Nat.le_of_ble_eq_true rfl) ?_
  exact ⟨I, FxC.refl, rfl⟩
