/-! readers of Text and Item -/
theorem RepC.use {L : Nat} {h : Hp} {t : Nat} {x : Tx} (g : GG L h) (ht : isT t) (R : RepC h t x) : (∀ i, i < 60 → h.2.2.1 (t + 1) i = some (itm h t i)) ∧ (∀ i, i < 60 → h.1[itm h t i]? = some (3, 8)) ∧ (∀ i, i < 60 → h.1[itm h t i + 1]? = some (100, 20)) ∧ (∀ i, i < 60 → h.1[itm h t i + 2]? = some (100, 20)) ∧ (∀ i, i < 60 → h.1[itm h t i + 3]? = some (100, 20)) ∧ (∀ i, i < 60 → h.2.2.1 (itm h t i) 0 = some (itm h t i + 1)) ∧ (∀ i, i < 60 → h.2.2.1 (itm h t i) 1 = some (itm h t i + 2)) ∧ (∀ i, i < 60 → h.2.2.1 (itm h t i) 2 = some (itm h t i + 3)) ∧ (∀ i, i < x.1 → h.2.1 (itm h t i) 3 = x.2.1 0 i) ∧ (∀ i, i < x.1 → h.2.1 (itm h t i) 4 = x.2.1 1 i) ∧ (∀ i, i < x.1 → h.2.1 (itm h t i) 5 = x.2.1 2 i) ∧ (∀ i, i < x.1 → h.2.1 (itm h t i) 6 = x.2.1 3 i) ∧ (∀ i, i < x.1 → h.2.1 (itm h t i) 7 = x.2.1 4 i) ∧ (∀ i k : Nat, i < x.1 → (k : Int) < x.2.1 4 i → h.2.1 (itm h t i + 1) k = x.2.2.1 0 i k) ∧ (∀ i k : Nat, i < x.1 → (k : Int) < x.2.1 4 i → h.2.1 (itm h t i + 2) k = x.2.2.1 1 i k) ∧ (∀ i k : Nat, i < x.1 → (k : Int) < x.2.1 4 i → h.2.1 (itm h t i + 3) k = x.2.2.1 2 i k) := by
  obtain ⟨R1, R2, R3, R4, R5, R6, R7⟩ := R
  have hI := fun i hi => g.it ht (R3 i hi).2
  exact ⟨fun i hi => (R3 i hi).1, fun i hi => (hI i hi).1, fun i hi => (hI i hi).2.1, fun i hi => (hI i hi).2.2.1, fun i hi => (hI i hi).2.2.2.1, fun i hi => (hI i hi).2.2.2.2.1, fun i hi => (hI i hi).2.2.2.2.2.1, fun i hi => (hI i hi).2.2.2.2.2.2.1, fun i hi => R5 0 i (by decide) hi, fun i hi => R5 1 i (by decide) hi, fun i hi => R5 2 i (by decide) hi, fun i hi => R5 3 i (by decide) hi, fun i hi => R5 4 i (by decide) hi, fun i k hi hk => R6 0 i k (by decide) hi hk, fun i k hi hk => R6 1 i k (by decide) hi hk, fun i k hi hk => R6 2 i k (by decide) hi hk⟩
theorem c_meaning_l {L : Nat} {h : Hp} {t : Nat} {x : Tx} (g : GG L h) (ht : isT t) (hR : RepC h t x) {m r : Int} : ∀ d i, i + d = x.1 → fi (fun k => x.2.1 3 k == m) i d = r → RN 51 2 [some (.inr (.inr (some t))), some (.inl m), some (.inl (i : Int))] [] h 0 0 (fun v h2 => h2 = h ∧ v = some (.inl r)) := by
  obtain ⟨T1, T2, T3, T4, T5, T6, T7⟩ := g.tx ht
  obtain ⟨I0, I1, I2, I3, I4, J0, J1, J2, F0, F1, F2, F3, F4, P0, P1, P2⟩ := hR.use g ht
  obtain ⟨R1, R2, -⟩ := id hR
  have hm : mrec 51 = some nM51 := rfl
  intro d
  induction d with
  | zero =>
    intro i hi hr
    refine r_iload_n hm rfl (k := ?_)
    refine r_aload_n hm rfl (k := ?_)
    refine r_getI (hm := hm) (hf := rfl) (hd := rfl) (hs := (by first | assumption | exact I1 _ (by omega) | exact I2 _ (by omega) | exact I3 _ (by omega) | exact I4 _ (by omega))) (hv := (by first | assumption | exact I0 _ (by omega) | exact J0 _ (by omega) | exact J1 _ (by omega) | exact J2 _ (by omega) | exact F0 _ (by omega) | exact F1 _ (by omega) | exact F2 _ (by omega) | exact F3 _ (by omega) | exact F4 _ (by omega) | exact P0 _ _ (by omega) (by omega) | exact P1 _ _ (by omega) (by omega) | exact P2 _ _ (by omega) (by omega))) (k := ?_)
    refine r_icmp_ge (t := 31) hm rfl rfl (fun c7 => ?_) (fun c7 => ?_)
    · refine r_iconst hm rfl (k := ?_)
      refine r_ireturn hm rfl rfl (by rfl) (Nat.le_of_ble_eq_true rfl) (Nat.le_of_ble_eq_true rfl) ?_
      exact ⟨rfl, by rw [← hr]; rfl⟩
    · exfalso; omega
  | succ d ih =>
    intro i hi hr
    refine r_iload_n hm rfl (k := ?_)
    refine r_aload_n hm rfl (k := ?_)
    refine r_getI (hm := hm) (hf := rfl) (hd := rfl) (hs := (by first | assumption | exact I1 _ (by omega) | exact I2 _ (by omega) | exact I3 _ (by omega) | exact I4 _ (by omega))) (hv := (by first | assumption | exact I0 _ (by omega) | exact J0 _ (by omega) | exact J1 _ (by omega) | exact J2 _ (by omega) | exact F0 _ (by omega) | exact F1 _ (by omega) | exact F2 _ (by omega) | exact F3 _ (by omega) | exact F4 _ (by omega) | exact P0 _ _ (by omega) (by omega) | exact P1 _ _ (by omega) (by omega) | exact P2 _ _ (by omega) (by omega))) (k := ?_)
    refine r_icmp_ge (t := 31) hm rfl rfl (fun c7 => ?_) (fun c7 => ?_)
    · exfalso; omega
    · refine r_aload_n hm rfl (k := ?_)
      refine r_getR (hm := hm) (hf := rfl) (hd := rfl) (hs := (by first | assumption | exact I1 _ (by omega) | exact I2 _ (by omega) | exact I3 _ (by omega) | exact I4 _ (by omega))) (hv := (by first | assumption | exact I0 _ (by omega) | exact J0 _ (by omega) | exact J1 _ (by omega) | exact J2 _ (by omega) | exact F0 _ (by omega) | exact F1 _ (by omega) | exact F2 _ (by omega) | exact F3 _ (by omega) | exact F4 _ (by omega) | exact P0 _ _ (by omega) (by omega) | exact P1 _ _ (by omega) (by omega) | exact P2 _ _ (by omega) (by omega))) (k := ?_)
      refine r_iload_n hm rfl (k := ?_)
      refine r_aald (hm := hm) (hf := rfl) (hs := (by first | assumption | exact I1 _ (by omega) | exact I2 _ (by omega) | exact I3 _ (by omega) | exact I4 _ (by omega))) (hkd := by decide) (hi := rfl) (hn := (by omega)) (hv := (by first | assumption | exact I0 _ (by omega) | exact J0 _ (by omega) | exact J1 _ (by omega) | exact J2 _ (by omega) | exact F0 _ (by omega) | exact F1 _ (by omega) | exact F2 _ (by omega) | exact F3 _ (by omega) | exact F4 _ (by omega) | exact P0 _ _ (by omega) (by omega) | exact P1 _ _ (by omega) (by omega) | exact P2 _ _ (by omega) (by omega))) (k := ?_)
      refine r_getI (hm := hm) (hf := rfl) (hd := rfl) (hs := (by first | assumption | exact I1 _ (by omega) | exact I2 _ (by omega) | exact I3 _ (by omega) | exact I4 _ (by omega))) (hv := (by first | assumption | exact I0 _ (by omega) | exact J0 _ (by omega) | exact J1 _ (by omega) | exact J2 _ (by omega) | exact F0 _ (by omega) | exact F1 _ (by omega) | exact F2 _ (by omega) | exact F3 _ (by omega) | exact F4 _ (by omega) | exact P0 _ _ (by omega) (by omega) | exact P1 _ _ (by omega) (by omega) | exact P2 _ _ (by omega) (by omega))) (k := ?_)
      refine r_iload_n hm rfl (k := ?_)
      refine r_icmp_ne (t := 25) hm rfl rfl (fun c20 => ?_) (fun c20 => ?_)
      · refine r_iinc hm rfl (hr := (by omega)) (k := ?_)
        refine r_goto (t := 2) hm rfl (k := ?_)
        exact ih (i + 1) (by omega) (by simpa [fi, c20] using hr)
      · refine r_iload_n hm rfl (k := ?_)
        refine r_ireturn hm rfl rfl (by rfl) (Nat.le_of_ble_eq_true rfl) (Nat.le_of_ble_eq_true rfl) ?_
        exact ⟨rfl, by rw [← hr]; simp [fi, Decidable.not_not.mp c20]⟩
theorem c_meaning {L : Nat} {h : Hp} {t : Nat} {x : Tx} (g : GG L h) (ht : isT t) (hR : RepC h t x) {m : Int} : RN 51 0 [some (.inr (.inr (some t))), some (.inl m), none] [] h 0 0 (fun v h2 => h2 = h ∧ v = some (.inl (fi (fun k => x.2.1 3 k == m) 0 x.1))) := by
  obtain ⟨T1, T2, T3, T4, T5, T6, T7⟩ := g.tx ht
  obtain ⟨I0, I1, I2, I3, I4, J0, J1, J2, F0, F1, F2, F3, F4, P0, P1, P2⟩ := hR.use g ht
  obtain ⟨R1, R2, -⟩ := id hR
  have hm : mrec 51 = some nM51 := rfl
  refine r_iconst hm rfl (k := ?_)
  refine r_istore_n hm rfl (k := ?_)
  exact c_meaning_l g ht hR x.1 0 (by omega) rfl
theorem c_placeOfName_l {L : Nat} {h : Hp} {t : Nat} {x : Tx} (g : GG L h) (ht : isT t) (hR : RepC h t x) {m r : Int} : ∀ d i, i + d = x.1 → fi (fun k => x.2.1 0 k == m) i d = r → RN 126 2 [some (.inr (.inr (some t))), some (.inl m), some (.inl (i : Int))] [] h 0 0 (fun v h2 => h2 = h ∧ v = some (.inl r)) := by
  obtain ⟨T1, T2, T3, T4, T5, T6, T7⟩ := g.tx ht
  obtain ⟨I0, I1, I2, I3, I4, J0, J1, J2, F0, F1, F2, F3, F4, P0, P1, P2⟩ := hR.use g ht
  obtain ⟨R1, R2, -⟩ := id hR
  have hm : mrec 126 = some nM126 := rfl
  intro d
  induction d with
  | zero =>
    intro i hi hr
    refine r_iload_n hm rfl (k := ?_)
    refine r_aload_n hm rfl (k := ?_)
    refine r_getI (hm := hm) (hf := rfl) (hd := rfl) (hs := (by first | assumption | exact I1 _ (by omega) | exact I2 _ (by omega) | exact I3 _ (by omega) | exact I4 _ (by omega))) (hv := (by first | assumption | exact I0 _ (by omega) | exact J0 _ (by omega) | exact J1 _ (by omega) | exact J2 _ (by omega) | exact F0 _ (by omega) | exact F1 _ (by omega) | exact F2 _ (by omega) | exact F3 _ (by omega) | exact F4 _ (by omega) | exact P0 _ _ (by omega) (by omega) | exact P1 _ _ (by omega) (by omega) | exact P2 _ _ (by omega) (by omega))) (k := ?_)
    refine r_icmp_ge (t := 31) hm rfl rfl (fun c7 => ?_) (fun c7 => ?_)
    · refine r_iconst hm rfl (k := ?_)
      refine r_ireturn hm rfl rfl (by rfl) (Nat.le_of_ble_eq_true rfl) (Nat.le_of_ble_eq_true rfl) ?_
      exact ⟨rfl, by rw [← hr]; rfl⟩
    · exfalso; omega
  | succ d ih =>
    intro i hi hr
    refine r_iload_n hm rfl (k := ?_)
    refine r_aload_n hm rfl (k := ?_)
    refine r_getI (hm := hm) (hf := rfl) (hd := rfl) (hs := (by first | assumption | exact I1 _ (by omega) | exact I2 _ (by omega) | exact I3 _ (by omega) | exact I4 _ (by omega))) (hv := (by first | assumption | exact I0 _ (by omega) | exact J0 _ (by omega) | exact J1 _ (by omega) | exact J2 _ (by omega) | exact F0 _ (by omega) | exact F1 _ (by omega) | exact F2 _ (by omega) | exact F3 _ (by omega) | exact F4 _ (by omega) | exact P0 _ _ (by omega) (by omega) | exact P1 _ _ (by omega) (by omega) | exact P2 _ _ (by omega) (by omega))) (k := ?_)
    refine r_icmp_ge (t := 31) hm rfl rfl (fun c7 => ?_) (fun c7 => ?_)
    · exfalso; omega
    · refine r_aload_n hm rfl (k := ?_)
      refine r_getR (hm := hm) (hf := rfl) (hd := rfl) (hs := (by first | assumption | exact I1 _ (by omega) | exact I2 _ (by omega) | exact I3 _ (by omega) | exact I4 _ (by omega))) (hv := (by first | assumption | exact I0 _ (by omega) | exact J0 _ (by omega) | exact J1 _ (by omega) | exact J2 _ (by omega) | exact F0 _ (by omega) | exact F1 _ (by omega) | exact F2 _ (by omega) | exact F3 _ (by omega) | exact F4 _ (by omega) | exact P0 _ _ (by omega) (by omega) | exact P1 _ _ (by omega) (by omega) | exact P2 _ _ (by omega) (by omega))) (k := ?_)
      refine r_iload_n hm rfl (k := ?_)
      refine r_aald (hm := hm) (hf := rfl) (hs := (by first | assumption | exact I1 _ (by omega) | exact I2 _ (by omega) | exact I3 _ (by omega) | exact I4 _ (by omega))) (hkd := by decide) (hi := rfl) (hn := (by omega)) (hv := (by first | assumption | exact I0 _ (by omega) | exact J0 _ (by omega) | exact J1 _ (by omega) | exact J2 _ (by omega) | exact F0 _ (by omega) | exact F1 _ (by omega) | exact F2 _ (by omega) | exact F3 _ (by omega) | exact F4 _ (by omega) | exact P0 _ _ (by omega) (by omega) | exact P1 _ _ (by omega) (by omega) | exact P2 _ _ (by omega) (by omega))) (k := ?_)
      refine r_getI (hm := hm) (hf := rfl) (hd := rfl) (hs := (by first | assumption | exact I1 _ (by omega) | exact I2 _ (by omega) | exact I3 _ (by omega) | exact I4 _ (by omega))) (hv := (by first | assumption | exact I0 _ (by omega) | exact J0 _ (by omega) | exact J1 _ (by omega) | exact J2 _ (by omega) | exact F0 _ (by omega) | exact F1 _ (by omega) | exact F2 _ (by omega) | exact F3 _ (by omega) | exact F4 _ (by omega) | exact P0 _ _ (by omega) (by omega) | exact P1 _ _ (by omega) (by omega) | exact P2 _ _ (by omega) (by omega))) (k := ?_)
      refine r_iload_n hm rfl (k := ?_)
      refine r_icmp_ne (t := 25) hm rfl rfl (fun c20 => ?_) (fun c20 => ?_)
      · refine r_iinc hm rfl (hr := (by omega)) (k := ?_)
        refine r_goto (t := 2) hm rfl (k := ?_)
        exact ih (i + 1) (by omega) (by simpa [fi, c20] using hr)
      · refine r_iload_n hm rfl (k := ?_)
        refine r_ireturn hm rfl rfl (by rfl) (Nat.le_of_ble_eq_true rfl) (Nat.le_of_ble_eq_true rfl) ?_
        exact ⟨rfl, by rw [← hr]; simp [fi, Decidable.not_not.mp c20]⟩
theorem c_placeOfName {L : Nat} {h : Hp} {t : Nat} {x : Tx} (g : GG L h) (ht : isT t) (hR : RepC h t x) {m : Int} : RN 126 0 [some (.inr (.inr (some t))), some (.inl m), none] [] h 0 0 (fun v h2 => h2 = h ∧ v = some (.inl (fi (fun k => x.2.1 0 k == m) 0 x.1))) := by
  obtain ⟨T1, T2, T3, T4, T5, T6, T7⟩ := g.tx ht
  obtain ⟨I0, I1, I2, I3, I4, J0, J1, J2, F0, F1, F2, F3, F4, P0, P1, P2⟩ := hR.use g ht
  obtain ⟨R1, R2, -⟩ := id hR
  have hm : mrec 126 = some nM126 := rfl
  refine r_iconst hm rfl (k := ?_)
  refine r_istore_n hm rfl (k := ?_)
  exact c_placeOfName_l g ht hR x.1 0 (by omega) rfl
theorem c_has {L : Nat} {h : Hp} {t : Nat} {x : Tx} (g : GG L h) (ht : isT t) (hR : RepC h t x) {i : Int} : RN 22 0 [some (.inr (.inr (some t))), some (.inl i)] [] h 0 0 (fun v h2 => h2 = h ∧ v = some (.inl (if 0 ≤ i ∧ i < (x.1 : Int) then 1 else 0))) := by
  obtain ⟨T1, T2, T3, T4, T5, T6, T7⟩ := g.tx ht
  obtain ⟨I0, I1, I2, I3, I4, J0, J1, J2, F0, F1, F2, F3, F4, P0, P1, P2⟩ := hR.use g ht
  obtain ⟨R1, R2, -⟩ := id hR
  have hm : mrec 22 = some nM22 := rfl
  refine r_iload_n hm rfl (k := ?_)
  refine r_if_lt (t := 16) hm rfl rfl (fun c1 => ?_) (fun c1 => ?_)
  · refine r_iconst hm rfl (k := ?_)
    refine r_ireturn hm rfl rfl (by first | rfl | decide) (Nat.le_of_ble_eq_true rfl) (Nat.le_of_ble_eq_true rfl) ?_
    exact ⟨rfl, by first | (rw [if_pos (by omega)]; done) | (rw [if_neg (by omega)]; done) | rfl⟩
  · refine r_iload_n hm rfl (k := ?_)
    refine r_aload_n hm rfl (k := ?_)
    refine r_getI (hm := hm) (hf := rfl) (hd := rfl) (hs := (by first | assumption | exact I1 _ (by omega) | exact I2 _ (by omega) | exact I3 _ (by omega) | exact I4 _ (by omega))) (hv := (by first | assumption | exact I0 _ (by omega) | exact J0 _ (by omega) | exact J1 _ (by omega) | exact J2 _ (by omega) | exact F0 _ (by omega) | exact F1 _ (by omega) | exact F2 _ (by omega) | exact F3 _ (by omega) | exact F4 _ (by omega) | exact P0 _ _ (by omega) (by omega) | exact P1 _ _ (by omega) (by omega) | exact P2 _ _ (by omega) (by omega))) (k := ?_)
    refine r_icmp_ge (t := 16) hm rfl rfl (fun c9 => ?_) (fun c9 => ?_)
    · refine r_iconst hm rfl (k := ?_)
      refine r_ireturn hm rfl rfl (by first | rfl | decide) (Nat.le_of_ble_eq_true rfl) (Nat.le_of_ble_eq_true rfl) ?_
      exact ⟨rfl, by first | (rw [if_pos (by omega)]; done) | (rw [if_neg (by omega)]; done) | rfl⟩
    · refine r_iconst hm rfl (k := ?_)
      refine r_goto (t := 17) hm rfl (k := ?_)
      refine r_ireturn hm rfl rfl (by first | rfl | decide) (Nat.le_of_ble_eq_true rfl) (Nat.le_of_ble_eq_true rfl) ?_
      exact ⟨rfl, by first | (rw [if_pos (by omega)]; done) | (rw [if_neg (by omega)]; done) | rfl⟩
/-- the place that piece k of item i means -/
def mnt (x : Tx) (i k : Nat) : Int := if x.2.2.1 0 i k = 1 then fi (fun q => x.2.1 3 q == x.2.2.1 1 i k) 0 x.1 else -1
theorem c_meantBy {L : Nat} {h : Hp} {t : Nat} {x : Tx} (g : GG L h) (ht : isT t) (hR : RepC h t x) {i k : Nat} (hi : i < x.1) (hk : (k : Int) < x.2.1 4 i) (hk2 : k < 20) : RN 50 0 [some (.inr (.inr (some t))), some (.inr (.inr (some (itm h t i)))), some (.inl (k : Int))] [] h 0 0 (fun v h2 => h2 = h ∧ v = some (.inl (mnt x i k))) := by
  obtain ⟨T1, T2, T3, T4, T5, T6, T7⟩ := g.tx ht
  obtain ⟨I0, I1, I2, I3, I4, J0, J1, J2, F0, F1, F2, F3, F4, P0, P1, P2⟩ := hR.use g ht
  obtain ⟨R1, R2, -⟩ := id hR
  have hm : mrec 50 = some nM50 := rfl
  unfold mnt
  refine r_aload_n hm rfl (k := ?_)
  refine r_getR (hm := hm) (hf := rfl) (hd := rfl) (hs := (by first | assumption | exact I1 _ (by omega) | exact I2 _ (by omega) | exact I3 _ (by omega) | exact I4 _ (by omega))) (hv := (by first | assumption | exact I0 _ (by omega) | exact J0 _ (by omega) | exact J1 _ (by omega) | exact J2 _ (by omega) | exact F0 _ (by omega) | exact F1 _ (by omega) | exact F2 _ (by omega) | exact F3 _ (by omega) | exact F4 _ (by omega) | exact P0 _ _ (by omega) (by omega) | exact P1 _ _ (by omega) (by omega) | exact P2 _ _ (by omega) (by omega))) (k := ?_)
  refine r_iload_n hm rfl (k := ?_)
  refine r_iald (hm := hm) (hf := rfl) (hs := (by first | assumption | exact I1 _ (by omega) | exact I2 _ (by omega) | exact I3 _ (by omega) | exact I4 _ (by omega))) (hi := rfl) (hn := (by omega)) (hv := (by first | assumption | exact I0 _ (by omega) | exact J0 _ (by omega) | exact J1 _ (by omega) | exact J2 _ (by omega) | exact F0 _ (by omega) | exact F1 _ (by omega) | exact F2 _ (by omega) | exact F3 _ (by omega) | exact F4 _ (by omega) | exact P0 _ _ (by omega) (by omega) | exact P1 _ _ (by omega) (by omega) | exact P2 _ _ (by omega) (by omega))) (k := ?_)
  refine r_iconst hm rfl (k := ?_)
  refine r_icmp_ne (t := 23) hm rfl rfl (fun c7 => ?_) (fun c7 => ?_)
  · refine r_iconst hm rfl (k := ?_)
    refine r_ireturn hm rfl rfl (by rfl) (Nat.le_of_ble_eq_true rfl) (Nat.le_of_ble_eq_true rfl) ?_
    exact ⟨rfl, by first | (rw [if_pos (by omega)]; done) | (rw [if_neg (by omega)]; done)⟩
  · refine r_aload_n hm rfl (k := ?_)
    refine r_aload_n hm rfl (k := ?_)
    refine r_getR (hm := hm) (hf := rfl) (hd := rfl) (hs := (by first | assumption | exact I1 _ (by omega) | exact I2 _ (by omega) | exact I3 _ (by omega) | exact I4 _ (by omega))) (hv := (by first | assumption | exact I0 _ (by omega) | exact J0 _ (by omega) | exact J1 _ (by omega) | exact J2 _ (by omega) | exact F0 _ (by omega) | exact F1 _ (by omega) | exact F2 _ (by omega) | exact F3 _ (by omega) | exact F4 _ (by omega) | exact P0 _ _ (by omega) (by omega) | exact P1 _ _ (by omega) (by omega) | exact P2 _ _ (by omega) (by omega))) (k := ?_)
    refine r_iload_n hm rfl (k := ?_)
    refine r_iald (hm := hm) (hf := rfl) (hs := (by first | assumption | exact I1 _ (by omega) | exact I2 _ (by omega) | exact I3 _ (by omega) | exact I4 _ (by omega))) (hi := rfl) (hn := (by omega)) (hv := (by first | assumption | exact I0 _ (by omega) | exact J0 _ (by omega) | exact J1 _ (by omega) | exact J2 _ (by omega) | exact F0 _ (by omega) | exact F1 _ (by omega) | exact F2 _ (by omega) | exact F3 _ (by omega) | exact F4 _ (by omega) | exact P0 _ _ (by omega) (by omega) | exact P1 _ _ (by omega) (by omega) | exact P2 _ _ (by omega) (by omega))) (k := ?_)
    refine r_callv (j2 := 51) hm rfl rfl rfl rfl rfl rfl (by first | assumption | exact I1 _ (by omega) | exact I2 _ (by omega) | exact I3 _ (by omega) | exact I4 _ (by omega)) (Nat.le_of_ble_eq_true rfl) (Nat.le_of_ble_eq_true rfl) rfl ⟨Nat.le_of_ble_eq_true rfl, Nat.le_of_ble_eq_true rfl, Nat.le_of_ble_eq_true rfl, Nat.le_of_ble_eq_true rfl, Nat.le_of_ble_eq_true rfl⟩ rfl (c_meaning g ht hR) (fun v9 h9 p9 => ?_)
    obtain ⟨e1, e2⟩ := p9
    subst e2
    subst e1
    change RN 50 20 _ _ _ 0 0 _
    dsimp only [Option.toList, List.cons_append, List.nil_append]
    refine r_goto (t := 24) hm rfl (k := ?_)
    refine r_ireturn hm rfl rfl (by rfl) (Nat.le_of_ble_eq_true rfl) (Nat.le_of_ble_eq_true rfl) ?_
    exact ⟨rfl, by first | (rw [if_pos (by omega)]; done) | (rw [if_neg (by omega)]; done)⟩
