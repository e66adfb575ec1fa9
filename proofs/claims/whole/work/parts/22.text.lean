/-! readers of Text and Item -/
theorem RepC.use {L : Nat} {h : Hp} {t : Nat} {x : Tx} (g : GG L h) (ht : isT t) (R : RepC h t x) : (∀ i, i < 60 → h.2.2.1 (t + 1) i = some (itm h t i)) ∧ (∀ i, i < 60 → h.1[itm h t i]? = some (3, 8)) ∧ (∀ i, i < 60 → h.1[itm h t i + 1]? = some (100, 20)) ∧ (∀ i, i < 60 → h.1[itm h t i + 2]? = some (100, 20)) ∧ (∀ i, i < 60 → h.1[itm h t i + 3]? = some (100, 20)) ∧ (∀ i, i < 60 → h.2.2.1 (itm h t i) 0 = some (itm h t i + 1)) ∧ (∀ i, i < 60 → h.2.2.1 (itm h t i) 1 = some (itm h t i + 2)) ∧ (∀ i, i < 60 → h.2.2.1 (itm h t i) 2 = some (itm h t i + 3)) ∧ (∀ i, i < x.1 → h.2.1 (itm h t i) 3 = x.2.1 0 i) ∧ (∀ i, i < x.1 → h.2.1 (itm h t i) 4 = x.2.1 1 i) ∧ (∀ i, i < x.1 → h.2.1 (itm h t i) 5 = x.2.1 2 i) ∧ (∀ i, i < x.1 → h.2.1 (itm h t i) 6 = x.2.1 3 i) ∧ (∀ i, i < x.1 → h.2.1 (itm h t i) 7 = x.2.1 4 i) ∧ (∀ i k : Nat, i < x.1 → (k : Int) < x.2.1 4 i → h.2.1 (itm h t i + 1) k = x.2.2.1 0 i k) ∧ (∀ i k : Nat, i < x.1 → (k : Int) < x.2.1 4 i → h.2.1 (itm h t i + 2) k = x.2.2.1 1 i k) ∧ (∀ i k : Nat, i < x.1 → (k : Int) < x.2.1 4 i → h.2.1 (itm h t i + 3) k = x.2.2.1 2 i k) := by
  obtain ⟨R1, R2, R3, R4, R5, R6, R7⟩ := R
  have hI := fun i hi => g.it ht (R3 i hi).2
  exact ⟨fun i hi => (R3 i hi).1, fun i hi => (hI i hi).1, fun i hi => (hI i hi).2.1, fun i hi => (hI i hi).2.2.1, fun i hi => (hI i hi).2.2.2.1, fun i hi => (hI i hi).2.2.2.2.1, fun i hi => (hI i hi).2.2.2.2.2.1, fun i hi => (hI i hi).2.2.2.2.2.2.1, fun i hi => R5 0 i (by decide) hi, fun i hi => R5 1 i (by decide) hi, fun i hi => R5 2 i (by decide) hi, fun i hi => R5 3 i (by decide) hi, fun i hi => R5 4 i (by decide) hi, fun i k hi hk => R6 0 i k (by decide) hi hk, fun i k hi hk => R6 1 i k (by decide) hi hk, fun i k hi hk => R6 2 i k (by decide) hi hk⟩
theorem c_meaning_l {L : Nat} {h : Hp} {t : Nat} {x : Tx} (g : GG L h) (ht : isT t) (hR : RepC h t x) {m r : Int} : ∀ d i, i + d = x.1 → fi (fun k => x.2.1 3 k == m) i d = r → RN 51 2 [some (.inr (.inr (some t))), some (.inl m), some (.inl (i : Int))] [] h 0 0 (fun v h2 => h2 = h ∧ v = some (.inl r)) := by
  obtain ⟨T1, T2, T3, T4, T5, T6, T7⟩ := g.tx ht
  obtain ⟨I0, I1, I2, I3, I4, J0, J1, J2, F0, F1, F2, F3, F4, P0, P1, P2⟩ := hR.use g ht
  obtain ⟨R1, R2, -⟩ := id hR
  have hm : mrec 51 = some nM51 := rfl
  intro d
  induction d with
  | zero =>
    intro i hi hr
    refine r_iload_n hm rfl (k := ?_)
    refine r_aload_n hm rfl (k := ?_)
    refine r_getI (hm := hm) (hf := rfl) (hd := rfl) (hs := (by first | assumption | exact I1 _ (by omega) | exact I2 _ (by omega) | exact I3 _ (by omega) | exact I4 _ (by omega))) (hv := (by first | assumption | exact I0 _ (by omega) | exact J0 _ (by omega) | exact J1 _ (by omega) | exact J2 _ (by omega) | exact F0 _ (by omega) | exact F1 _ (by omega) | exact F2 _ (by omega) | exact F3 _ (by omega) | exact F4 _ (by omega) | exact P0 _ _ (by omega) (by omega) | exact P1 _ _ (by omega) (by omega) | exact P2 _ _ (by omega) (by omega))) (k := ?_)
    refine r_icmp_ge (t := 31) hm rfl rfl (fun c7 => ?_) (fun c7 => ?_)
    · refine r_iconst hm rfl (k := ?_)
      refine r_ireturn hm rfl rfl (by rfl) (Nat.le_of_ble_eq_true rfl) (Nat.le_of_ble_eq_true rfl) ?_
      exact ⟨rfl, by rw [← hr]; rfl⟩
    · exfalso; omega
  | succ d ih =>
    intro i hi hr
    refine r_iload_n hm rfl (k := ?_)
    refine r_aload_n hm rfl (k := ?_)
    refine r_getI (hm := hm) (hf := rfl) (hd := rfl) (hs := (by first | assumption | exact I1 _ (by omega) | exact I2 _ (by omega) | exact I3 _ (by omega) | exact I4 _ (by omega))) (hv := (by first | assumption | exact I0 _ (by omega) | exact J0 _ (by omega) | exact J1 _ (by omega) | exact J2 _ (by omega) | exact F0 _ (by omega) | exact F1 _ (by omega) | exact F2 _ (by omega) | exact F3 _ (by omega) | exact F4 _ (by omega) | exact P0 _ _ (by omega) (by omega) | exact P1 _ _ (by omega) (by omega) | exact P2 _ _ (by omega) (by omega))) (k := ?_)
    refine r_icmp_ge (t := 31) hm rfl rfl (fun c7 => ?_) (fun c7 => ?_)
    · exfalso; omega
    · refine r_aload_n hm rfl (k := ?_)
      refine r_getR (hm := hm) (hf := rfl) (hd := rfl) (hs := (by first | assumption | exact I1 _ (by omega) | exact I2 _ (by omega) | exact I3 _ (by omega) | exact I4 _ (by omega))) (hv := (by first | assumption | exact I0 _ (by omega) | exact J0 _ (by omega) | exact J1 _ (by omega) | exact J2 _ (by omega) | exact F0 _ (by omega) | exact F1 _ (by omega) | exact F2 _ (by omega) | exact F3 _ (by omega) | exact F4 _ (by omega) | exact P0 _ _ (by omega) (by omega) | exact P1 _ _ (by omega) (by omega) | exact P2 _ _ (by omega) (by omega))) (k := ?_)
      refine r_iload_n hm rfl (k := ?_)
      refine r_aald (hm := hm) (hf := rfl) (hs := (by first | assumption | exact I1 _ (by omega) | exact I2 _ (by omega) | exact I3 _ (by omega) | exact I4 _ (by omega))) (hkd := by decide) (hi := rfl) (hn := (by omega)) (hv := (by first | assumption | exact I0 _ (by omega) | exact J0 _ (by omega) | exact J1 _ (by omega) | exact J2 _ (by omega) | exact F0 _ (by omega) | exact F1 _ (by omega) | exact F2 _ (by omega) | exact F3 _ (by omega) | exact F4 _ (by omega) | exact P0 _ _ (by omega) (by omega) | exact P1 _ _ (by omega) (by omega) | exact P2 _ _ (by omega) (by omega))) (k := ?_)
      refine r_getI (hm := hm) (hf := rfl) (hd := rfl) (hs := (by first | assumption | exact I1 _ (by omega) | exact I2 _ (by omega) | exact I3 _ (by omega) | exact I4 _ (by omega))) (hv := (by first | assumption | exact I0 _ (by omega) | exact J0 _ (by omega) | exact J1 _ (by omega) | exact J2 _ (by omega) | exact F0 _ (by omega) | exact F1 _ (by omega) | exact F2 _ (by omega) | exact F3 _ (by omega) | exact F4 _ (by omega) | exact P0 _ _ (by omega) (by omega) | exact P1 _ _ (by omega) (by omega) | exact P2 _ _ (by omega) (by omega))) (k := ?_)
      refine r_iload_n hm rfl (k := ?_)
      refine r_icmp_ne (t := 25) hm rfl rfl (fun c20 => ?_) (fun c20 => ?_)
      · refine r_iinc hm rfl (hr := (by omega)) (k := ?_)
        refine r_goto (t := 2) hm rfl (k := ?_)
        exact ih (i + 1) (by omega) (by simpa [fi, c20] using hr)
      · refine r_iload_n hm rfl (k := ?_)
        refine r_ireturn hm rfl rfl (by rfl) (Nat.le_of_ble_eq_true rfl) (Nat.le_of_ble_eq_true rfl) ?_
        exact ⟨rfl, by rw [← hr]; simp [fi, Decidable.not_not.mp c20]⟩
theorem c_meaning {L : Nat} {h : Hp} {t : Nat} {x : Tx} (g : GG L h) (ht : isT t) (hR : RepC h t x) {m : Int} : RN 51 0 [some (.inr (.inr (some t))), some (.inl m), none] [] h 0 0 (fun v h2 => h2 = h ∧ v = some (.inl (fi (fun k => x.2.1 3 k == m) 0 x.1))) := by
  obtain ⟨T1, T2, T3, T4, T5, T6, T7⟩ := g.tx ht
  obtain ⟨I0, I1, I2, I3, I4, J0, J1, J2, F0, F1, F2, F3, F4, P0, P1, P2⟩ := hR.use g ht
  obtain ⟨R1, R2, -⟩ := id hR
  have hm : mrec 51 = some nM51 := rfl
  refine r_iconst hm rfl (k := ?_)
  refine r_istore_n hm rfl (k := ?_)
  exact c_meaning_l g ht hR x.1 0 (by omega) rfl
theorem c_placeOfName_l {L : Nat} {h : Hp} {t : Nat} {x : Tx} (g : GG L h) (ht : isT t) (hR : RepC h t x) {m r : Int} : ∀ d i, i + d = x.1 → fi (fun k => x.2.1 0 k == m) i d = r → RN 126 2 [some (.inr (.inr (some t))), some (.inl m), some (.inl (i : Int))] [] h 0 0 (fun v h2 => h2 = h ∧ v = some (.inl r)) := by
  obtain ⟨T1, T2, T3, T4, T5, T6, T7⟩ := g.tx ht
  obtain ⟨I0, I1, I2, I3, I4, J0, J1, J2, F0, F1, F2, F3, F4, P0, P1, P2⟩ := hR.use g ht
  obtain ⟨R1, R2, -⟩ := id hR
  have hm : mrec 126 = some nM126 := rfl
  intro d
  induction d with
  | zero =>
    intro i hi hr
    refine r_iload_n hm rfl (k := ?_)
    refine r_aload_n hm rfl (k := ?_)
    refine r_getI (hm := hm) (hf := rfl) (hd := rfl) (hs := (by first | assumption | exact I1 _ (by omega) | exact I2 _ (by omega) | exact I3 _ (by omega) | exact I4 _ (by omega))) (hv := (by first | assumption | exact I0 _ (by omega) | exact J0 _ (by omega) | exact J1 _ (by omega) | exact J2 _ (by omega) | exact F0 _ (by omega) | exact F1 _ (by omega) | exact F2 _ (by omega) | exact F3 _ (by omega) | exact F4 _ (by omega) | exact P0 _ _ (by omega) (by omega) | exact P1 _ _ (by omega) (by omega) | exact P2 _ _ (by omega) (by omega))) (k := ?_)
    refine r_icmp_ge (t := 31) hm rfl rfl (fun c7 => ?_) (fun c7 => ?_)
    · refine r_iconst hm rfl (k := ?_)
      refine r_ireturn hm rfl rfl (by rfl) (Nat.le_of_ble_eq_true rfl) (Nat.le_of_ble_eq_true rfl) ?_
      exact ⟨rfl, by rw [← hr]; rfl⟩
    · exfalso; omega
  | succ d ih =>
    intro i hi hr
    refine r_iload_n hm rfl (k := ?_)
    refine r_aload_n hm rfl (k := ?_)
    refine r_getI (hm := hm) (hf := rfl) (hd := rfl) (hs := (by first | assumption | exact I1 _ (by omega) | exact I2 _ (by omega) | exact I3 _ (by omega) | exact I4 _ (by omega))) (hv := (by first | assumption | exact I0 _ (by omega) | exact J0 _ (by omega) | exact J1 _ (by omega) | exact J2 _ (by omega) | exact F0 _ (by omega) | exact F1 _ (by omega) | exact F2 _ (by omega) | exact F3 _ (by omega) | exact F4 _ (by omega) | exact P0 _ _ (by omega) (by omega) | exact P1 _ _ (by omega) (by omega) | exact P2 _ _ (by omega) (by omega))) (k := ?_)
    refine r_icmp_ge (t := 31) hm rfl rfl (fun c7 => ?_) (fun c7 => ?_)
    · exfalso; omega
    · refine r_aload_n hm rfl (k := ?_)
      refine r_getR (hm := hm) (hf := rfl) (hd := rfl) (hs := (by first | assumption | exact I1 _ (by omega) | exact I2 _ (by omega) | exact I3 _ (by omega) | exact I4 _ (by omega))) (hv := (by first | assumption | exact I0 _ (by omega) | exact J0 _ (by omega) | exact J1 _ (by omega) | exact J2 _ (by omega) | exact F0 _ (by omega) | exact F1 _ (by omega) | exact F2 _ (by omega) | exact F3 _ (by omega) | exact F4 _ (by omega) | exact P0 _ _ (by omega) (by omega) | exact P1 _ _ (by omega) (by omega) | exact P2 _ _ (by omega) (by omega))) (k := ?_)
      refine r_iload_n hm rfl (k := ?_)
      refine r_aald (hm := hm) (hf := rfl) (hs := (by first | assumption | exact I1 _ (by omega) | exact I2 _ (by omega) | exact I3 _ (by omega) | exact I4 _ (by omega))) (hkd := by decide) (hi := rfl) (hn := (by omega)) (hv := (by first | assumption | exact I0 _ (by omega) | exact J0 _ (by omega) | exact J1 _ (by omega) | exact J2 _ (by omega) | exact F0 _ (by omega) | exact F1 _ (by omega) | exact F2 _ (by omega) | exact F3 _ (by omega) | exact F4 _ (by omega) | exact P0 _ _ (by omega) (by omega) | exact P1 _ _ (by omega) (by omega) | exact P2 _ _ (by omega) (by omega))) (k := ?_)
      refine r_getI (hm := hm) (hf := rfl) (hd := rfl) (hs := (by first | assumption | exact I1 _ (by omega) | exact I2 _ (by omega) | exact I3 _ (by omega) | exact I4 _ (by omega))) (hv := (by first | assumption | exact I0 _ (by omega) | exact J0 _ (by omega) | exact J1 _ (by omega) | exact J2 _ (by omega) | exact F0 _ (by omega) | exact F1 _ (by omega) | exact F2 _ (by omega) | exact F3 _ (by omega) | exact F4 _ (by omega) | exact P0 _ _ (by omega) (by omega) | exact P1 _ _ (by omega) (by omega) | exact P2 _ _ (by omega) (by omega))) (k := ?_)
      refine r_iload_n hm rfl (k := ?_)
      refine r_icmp_ne (t := 25) hm rfl rfl (fun c20 => ?_) (fun c20 => ?_)
      · refine r_iinc hm rfl (hr := (by omega)) (k := ?_)
        refine r_goto (t := 2) hm rfl (k := ?_)
        exact ih (i + 1) (by omega) (by simpa [fi, c20] using hr)
      · refine r_iload_n hm rfl (k := ?_)
        refine r_ireturn hm rfl rfl (by rfl) (Nat.le_of_ble_eq_true rfl) (Nat.le_of_ble_eq_true rfl) ?_
        exact ⟨rfl, by rw [← hr]; simp [fi, Decidable.not_not.mp c20]⟩
theorem c_placeOfName {L : Nat} {h : Hp} {t : Nat} {x : Tx} (g : GG L h) (ht : isT t) (hR : RepC h t x) {m : Int} : RN 126 0 [some (.inr (.inr (some t))), some (.inl m), none] [] h 0 0 (fun v h2 => h2 = h ∧ v = some (.inl (fi (fun k => x.2.1 0 k == m) 0 x.1))) := by
  obtain ⟨T1, T2, T3, T4, T5, T6, T7⟩ := g.tx ht
  obtain ⟨I0, I1, I2, I3, I4, J0, J1, J2, F0, F1, F2, F3, F4, P0, P1, P2⟩ := hR.use g ht
  obtain ⟨R1, R2, -⟩ := id hR
  have hm : mrec 126 = some nM126 := rfl
  refine r_iconst hm rfl (k := ?_)
  refine r_istore_n hm rfl (k := ?_)
  exact c_placeOfName_l g ht hR x.1 0 (by omega) rfl
theorem c_has {L : Nat} {h : Hp} {t : Nat} {x : Tx} (g : GG L h) (ht : isT t) (hR : RepC h t x) {i : Int} : RN 22 0 [some (.inr (.inr (some t))), some (.inl i)] [] h 0 0 (fun v h2 => h2 = h ∧ v = some (.inl (if 0 ≤ i ∧ i < (x.1 : Int) then 1 else 0))) := by
  obtain ⟨T1, T2, T3, T4, T5, T6, T7⟩ := g.tx ht
  obtain ⟨I0, I1, I2, I3, I4, J0, J1, J2, F0, F1, F2, F3, F4, P0, P1, P2⟩ := hR.use g ht
  obtain ⟨R1, R2, -⟩ := id hR
  have hm : mrec 22 = some nM22 := rfl
  refine r_iload_n hm rfl (k := ?_)
  refine r_if_lt (t := 16) hm rfl rfl (fun c1 => ?_) (fun c1 => ?_)
  · refine r_iconst hm rfl (k := ?_)
    refine r_ireturn hm rfl rfl (by first | rfl | decide) (Nat.le_of_ble_eq_true rfl) (Nat.le_of_ble_eq_true rfl) ?_
    exact ⟨rfl, by first | (rw [if_pos (by omega)]; done) | (rw [if_neg (by omega)]; done) | rfl⟩
  · refine r_iload_n hm rfl (k := ?_)
    refine r_aload_n hm rfl (k := ?_)
    refine r_getI (hm := hm) (hf := rfl) (hd := rfl) (hs := (by first | assumption | exact I1 _ (by omega) | exact I2 _ (by omega) | exact I3 _ (by omega) | exact I4 _ (by omega))) (hv := (by first | assumption | exact I0 _ (by omega) | exact J0 _ (by omega) | exact J1 _ (by omega) | exact J2 _ (by omega) | exact F0 _ (by omega) | exact F1 _ (by omega) | exact F2 _ (by omega) | exact F3 _ (by omega) | exact F4 _ (by omega) | exact P0 _ _ (by omega) (by omega) | exact P1 _ _ (by omega) (by omega) | exact P2 _ _ (by omega) (by omega))) (k := ?_)
    refine r_icmp_ge (t := 16) hm rfl rfl (fun c9 => ?_) (fun c9 => ?_)
    · refine r_iconst hm rfl (k := ?_)
      refine r_ireturn hm rfl rfl (by first | rfl | decide) (Nat.le_of_ble_eq_true rfl) (Nat.le_of_ble_eq_true rfl) ?_
      exact ⟨rfl, by first | (rw [if_pos (by omega)]; done) | (rw [if_neg (by omega)]; done) | rfl⟩
    · refine r_iconst hm rfl (k := ?_)
      refine r_goto (t := 17) hm rfl (k := ?_)
      refine r_ireturn hm rfl rfl (by first | rfl | decide) (Nat.le_of_ble_eq_true rfl) (Nat.le_of_ble_eq_true rfl) ?_
      exact ⟨rfl, by first | (rw [if_pos (by omega)]; done) | (rw [if_neg (by omega)]; done) | rfl⟩
/-- the place that piece k of item i means -/
def mnt (x : Tx) (i k : Nat) : Int := if x.2.2.1 0 i k = 1 then fi (fun q => x.2.1 3 q == x.2.2.1 1 i k) 0 x.1 else -1
theorem c_meantBy {L : Nat} {h : Hp} {t : Nat} {x : Tx} (g : GG L h) (ht : isT t) (hR : RepC h t x) {i k : Nat} (hi : i < x.1) (hk : (k : Int) < x.2.1 4 i) (hk2 : k < 20) : RN 50 0 [some (.inr (.inr (some t))), some (.inr (.inr (some (itm h t i)))), some (.inl (k : Int))] [] h 0 0 (fun v h2 => h2 = h ∧ v = some (.inl (mnt x i k))) := by
  obtain ⟨T1, T2, T3, T4, T5, T6, T7⟩ := g.tx ht
  obtain ⟨I0, I1, I2, I3, I4, J0, J1, J2, F0, F1, F2, F3, F4, P0, P1, P2⟩ := hR.use g ht
  obtain ⟨R1, R2, -⟩ := id hR
  have hm : mrec 50 = some nM50 := rfl
  unfold mnt
  refine r_aload_n hm rfl (k := ?_)
  refine r_getR (hm := hm) (hf := rfl) (hd := rfl) (hs := (by first | assumption | exact I1 _ (by omega) | exact I2 _ (by omega) | exact I3 _ (by omega) | exact I4 _ (by omega))) (hv := (by first | assumption | exact I0 _ (by omega) | exact J0 _ (by omega) | exact J1 _ (by omega) | exact J2 _ (by omega) | exact F0 _ (by omega) | exact F1 _ (by omega) | exact F2 _ (by omega) | exact F3 _ (by omega) | exact F4 _ (by omega) | exact P0 _ _ (by omega) (by omega) | exact P1 _ _ (by omega) (by omega) | exact P2 _ _ (by omega) (by omega))) (k := ?_)
  refine r_iload_n hm rfl (k := ?_)
  refine r_iald (hm := hm) (hf := rfl) (hs := (by first | assumption | exact I1 _ (by omega) | exact I2 _ (by omega) | exact I3 _ (by omega) | exact I4 _ (by omega))) (hi := rfl) (hn := (by omega)) (hv := (by first | assumption | exact I0 _ (by omega) | exact J0 _ (by omega) | exact J1 _ (by omega) | exact J2 _ (by omega) | exact F0 _ (by omega) | exact F1 _ (by omega) | exact F2 _ (by omega) | exact F3 _ (by omega) | exact F4 _ (by omega) | exact P0 _ _ (by omega) (by omega) | exact P1 _ _ (by omega) (by omega) | exact P2 _ _ (by omega) (by omega))) (k := ?_)
  refine r_iconst hm rfl (k := ?_)
  refine r_icmp_ne (t := 23) hm rfl rfl (fun c7 => ?_) (fun c7 => ?_)
  · refine r_iconst hm rfl (k := ?_)
    refine r_ireturn hm rfl rfl (by rfl) (Nat.le_of_ble_eq_true rfl) (Nat.le_of_ble_eq_true rfl) ?_
    exact ⟨rfl, by first | (rw [if_pos (by omega)]; done) | (rw [if_neg (by omega)]; done)⟩
  · refine r_aload_n hm rfl (k := ?_)
    refine r_aload_n hm rfl (k := ?_)
    refine r_getR (hm := hm) (hf := rfl) (hd := rfl) (hs := (by first | assumption | exact I1 _ (by omega) | exact I2 _ (by omega) | exact I3 _ (by omega) | exact I4 _ (by omega))) (hv := (by first | assumption | exact I0 _ (by omega) | exact J0 _ (by omega) | exact J1 _ (by omega) | exact J2 _ (by omega) | exact F0 _ (by omega) | exact F1 _ (by omega) | exact F2 _ (by omega) | exact F3 _ (by omega) | exact F4 _ (by omega) | exact P0 _ _ (by omega) (by omega) | exact P1 _ _ (by omega) (by omega) | exact P2 _ _ (by omega) (by omega))) (k := ?_)
    refine r_iload_n hm rfl (k := ?_)
    refine r_iald (hm := hm) (hf := rfl) (hs := (by first | assumption | exact I1 _ (by omega) | exact I2 _ (by omega) | exact I3 _ (by omega) | exact I4 _ (by omega))) (hi := rfl) (hn := (by omega)) (hv := (by first | assumption | exact I0 _ (by omega) | exact J0 _ (by omega) | exact J1 _ (by omega) | exact J2 _ (by omega) | exact F0 _ (by omega) | exact F1 _ (by omega) | exact F2 _ (by omega) | exact F3 _ (by omega) | exact F4 _ (by omega) | exact P0 _ _ (by omega) (by omega) | exact P1 _ _ (by omega) (by omega) | exact P2 _ _ (by omega) (by omega))) (k := ?_)
    refine r_callv (j2 := 51) hm rfl rfl rfl rfl rfl rfl (by first | assumption | exact I1 _ (by omega) | exact I2 _ (by omega) | exact I3 _ (by omega) | exact I4 _ (by omega)) (Nat.le_of_ble_eq_true rfl) (Nat.le_of_ble_eq_true rfl) rfl ⟨Nat.le_of_ble_eq_true rfl, Nat.le_of_ble_eq_true rfl, Nat.le_of_ble_eq_true rfl, Nat.le_of_ble_eq_true rfl, Nat.le_of_ble_eq_true rfl⟩ rfl (c_meaning g ht hR) (fun v9 h9 p9 => ?_)
    obtain ⟨e1, e2⟩ := p9
    subst e2
    subst e1
    change RN 50 20 _ _ _ 0 0 _
    dsimp only [Option.toList, List.cons_append, List.nil_append]
    refine r_goto (t := 24) hm rfl (k := ?_)
    refine r_ireturn hm rfl rfl (by rfl) (Nat.le_of_ble_eq_true rfl) (Nat.le_of_ble_eq_true rfl) ?_
    exact ⟨rfl, by first | (rw [if_pos (by omega)]; done) | (rw [if_neg (by omega)]; done)⟩
theorem c_isList {L : Nat} {h : Hp} {t : Nat} {x : Tx} (g : GG L h) (ht : isT t) (hR : RepC h t x) {i : Nat} (hi : i < x.1) : RN 102 0 [some (.inr (.inr (some (itm h t i))))] [] h 0 0 (fun v h2 => h2 = h ∧ v = some (.inl (if 4 ≤ x.2.1 1 i ∧ x.2.1 1 i ≤ 6 then 1 else 0))) := by
  obtain ⟨T1, T2, T3, T4, T5, T6, T7⟩ := g.tx ht
  obtain ⟨I0, I1, I2, I3, I4, J0, J1, J2, F0, F1, F2, F3, F4, P0, P1, P2⟩ := hR.use g ht
  obtain ⟨R1, R2, -⟩ := id hR
  have hm : mrec 102 = some nM102 := rfl
  refine r_aload_n hm rfl (k := ?_)
  refine r_getI (hm := hm) (hf := rfl) (hd := rfl) (hs := (by first | assumption | exact I1 _ (by omega) | exact I2 _ (by omega) | exact I3 _ (by omega) | exact I4 _ (by omega))) (hv := (by first | assumption | exact I0 _ (by omega) | exact J0 _ (by omega) | exact J1 _ (by omega) | exact J2 _ (by omega) | exact F0 _ (by omega) | exact F1 _ (by omega) | exact F2 _ (by omega) | exact F3 _ (by omega) | exact F4 _ (by omega) | exact P0 _ _ (by omega) (by omega) | exact P1 _ _ (by omega) (by omega) | exact P2 _ _ (by omega) (by omega))) (k := ?_)
  refine r_iconst hm rfl (k := ?_)
  refine r_icmp_lt (t := 21) hm rfl rfl (fun c5 => ?_) (fun c5 => ?_)
  · refine r_iconst hm rfl (k := ?_)
    refine r_ireturn hm rfl rfl (by first | rfl | decide) (Nat.le_of_ble_eq_true rfl) (Nat.le_of_ble_eq_true rfl) ?_
    exact ⟨rfl, by first | (rw [if_pos (by first | assumption | omega | (simp_all; done))]; done) | (rw [if_neg (by first | assumption | omega | (simp_all; done))]; done)⟩
  · refine r_aload_n hm rfl (k := ?_)
    refine r_getI (hm := hm) (hf := rfl) (hd := rfl) (hs := (by first | assumption | exact I1 _ (by omega) | exact I2 _ (by omega) | exact I3 _ (by omega) | exact I4 _ (by omega))) (hv := (by first | assumption | exact I0 _ (by omega) | exact J0 _ (by omega) | exact J1 _ (by omega) | exact J2 _ (by omega) | exact F0 _ (by omega) | exact F1 _ (by omega) | exact F2 _ (by omega) | exact F3 _ (by omega) | exact F4 _ (by omega) | exact P0 _ _ (by omega) (by omega) | exact P1 _ _ (by omega) (by omega) | exact P2 _ _ (by omega) (by omega))) (k := ?_)
    refine r_bipush hm rfl (k := ?_)
    refine r_icmp_gt (t := 21) hm rfl rfl (fun c14 => ?_) (fun c14 => ?_)
    · refine r_iconst hm rfl (k := ?_)
      refine r_ireturn hm rfl rfl (by first | rfl | decide) (Nat.le_of_ble_eq_true rfl) (Nat.le_of_ble_eq_true rfl) ?_
      exact ⟨rfl, by first | (rw [if_pos (by first | assumption | omega | (simp_all; done))]; done) | (rw [if_neg (by first | assumption | omega | (simp_all; done))]; done)⟩
    · refine r_iconst hm rfl (k := ?_)
      refine r_goto (t := 22) hm rfl (k := ?_)
      refine r_ireturn hm rfl rfl (by first | rfl | decide) (Nat.le_of_ble_eq_true rfl) (Nat.le_of_ble_eq_true rfl) ?_
      exact ⟨rfl, by first | (rw [if_pos (by first | assumption | omega | (simp_all; done))]; done) | (rw [if_neg (by first | assumption | omega | (simp_all; done))]; done)⟩
theorem c_floats {L : Nat} {h : Hp} {t : Nat} {x : Tx} (g : GG L h) (ht : isT t) (hR : RepC h t x) {i : Nat} (hi : i < x.1) : RN 46 0 [some (.inr (.inr (some (itm h t i))))] [] h 0 0 (fun v h2 => h2 = h ∧ v = some (.inl (if x.2.1 1 i = 2 ∨ x.2.1 1 i = 3 then 1 else 0))) := by
  obtain ⟨T1, T2, T3, T4, T5, T6, T7⟩ := g.tx ht
  obtain ⟨I0, I1, I2, I3, I4, J0, J1, J2, F0, F1, F2, F3, F4, P0, P1, P2⟩ := hR.use g ht
  obtain ⟨R1, R2, -⟩ := id hR
  have hm : mrec 46 = some nM46 := rfl
  refine r_aload_n hm rfl (k := ?_)
  refine r_getI (hm := hm) (hf := rfl) (hd := rfl) (hs := (by first | assumption | exact I1 _ (by omega) | exact I2 _ (by omega) | exact I3 _ (by omega) | exact I4 _ (by omega))) (hv := (by first | assumption | exact I0 _ (by omega) | exact J0 _ (by omega) | exact J1 _ (by omega) | exact J2 _ (by omega) | exact F0 _ (by omega) | exact F1 _ (by omega) | exact F2 _ (by omega) | exact F3 _ (by omega) | exact F4 _ (by omega) | exact P0 _ _ (by omega) (by omega) | exact P1 _ _ (by omega) (by omega) | exact P2 _ _ (by omega) (by omega))) (k := ?_)
  refine r_iconst hm rfl (k := ?_)
  refine r_icmp_eq (t := 16) hm rfl rfl (fun c5 => ?_) (fun c5 => ?_)
  · refine r_iconst hm rfl (k := ?_)
    refine r_goto (t := 21) hm rfl (k := ?_)
    refine r_ireturn hm rfl rfl (by first | rfl | decide) (Nat.le_of_ble_eq_true rfl) (Nat.le_of_ble_eq_true rfl) ?_
    exact ⟨rfl, by first | (rw [if_pos (by first | assumption | omega | (simp_all; done))]; done) | (rw [if_neg (by first | assumption | omega | (simp_all; done))]; done)⟩
  · refine r_aload_n hm rfl (k := ?_)
    refine r_getI (hm := hm) (hf := rfl) (hd := rfl) (hs := (by first | assumption | exact I1 _ (by omega) | exact I2 _ (by omega) | exact I3 _ (by omega) | exact I4 _ (by omega))) (hv := (by first | assumption | exact I0 _ (by omega) | exact J0 _ (by omega) | exact J1 _ (by omega) | exact J2 _ (by omega) | exact F0 _ (by omega) | exact F1 _ (by omega) | exact F2 _ (by omega) | exact F3 _ (by omega) | exact F4 _ (by omega) | exact P0 _ _ (by omega) (by omega) | exact P1 _ _ (by omega) (by omega) | exact P2 _ _ (by omega) (by omega))) (k := ?_)
    refine r_iconst hm rfl (k := ?_)
    refine r_icmp_ne (t := 20) hm rfl rfl (fun c13 => ?_) (fun c13 => ?_)
    · refine r_iconst hm rfl (k := ?_)
      refine r_ireturn hm rfl rfl (by first | rfl | decide) (Nat.le_of_ble_eq_true rfl) (Nat.le_of_ble_eq_true rfl) ?_
      exact ⟨rfl, by first | (rw [if_pos (by first | assumption | omega | (simp_all; done))]; done) | (rw [if_neg (by first | assumption | omega | (simp_all; done))]; done)⟩
    · refine r_iconst hm rfl (k := ?_)
      refine r_goto (t := 21) hm rfl (k := ?_)
      refine r_ireturn hm rfl rfl (by first | rfl | decide) (Nat.le_of_ble_eq_true rfl) (Nat.le_of_ble_eq_true rfl) ?_
      exact ⟨rfl, by first | (rw [if_pos (by first | assumption | omega | (simp_all; done))]; done) | (rw [if_neg (by first | assumption | omega | (simp_all; done))]; done)⟩
theorem c_callsMark {L : Nat} {h : Hp} {t : Nat} {x : Tx} (g : GG L h) (ht : isT t) (hR : RepC h t x) {i k : Nat} {m : Int} (hi : i < x.1) (hk : (k : Int) < x.2.1 4 i) (hk2 : k < 20) : RN 95 0 [some (.inr (.inr (some (itm h t i)))), some (.inl (k : Int)), some (.inl m)] [] h 0 0 (fun v h2 => h2 = h ∧ v = some (.inl (if x.2.2.1 0 i k = 1 ∧ x.2.2.1 1 i k = m then 1 else 0))) := by
  obtain ⟨T1, T2, T3, T4, T5, T6, T7⟩ := g.tx ht
  obtain ⟨I0, I1, I2, I3, I4, J0, J1, J2, F0, F1, F2, F3, F4, P0, P1, P2⟩ := hR.use g ht
  obtain ⟨R1, R2, -⟩ := id hR
  have hm : mrec 95 = some nM95 := rfl
  refine r_aload_n hm rfl (k := ?_)
  refine r_getR (hm := hm) (hf := rfl) (hd := rfl) (hs := (by first | assumption | exact I1 _ (by omega) | exact I2 _ (by omega) | exact I3 _ (by omega) | exact I4 _ (by omega))) (hv := (by first | assumption | exact I0 _ (by omega) | exact J0 _ (by omega) | exact J1 _ (by omega) | exact J2 _ (by omega) | exact F0 _ (by omega) | exact F1 _ (by omega) | exact F2 _ (by omega) | exact F3 _ (by omega) | exact F4 _ (by omega) | exact P0 _ _ (by omega) (by omega) | exact P1 _ _ (by omega) (by omega) | exact P2 _ _ (by omega) (by omega))) (k := ?_)
  refine r_iload_n hm rfl (k := ?_)
  refine r_iald (hm := hm) (hf := rfl) (hs := (by first | assumption | exact I1 _ (by omega) | exact I2 _ (by omega) | exact I3 _ (by omega) | exact I4 _ (by omega))) (hi := rfl) (hn := (by omega)) (hv := (by first | assumption | exact I0 _ (by omega) | exact J0 _ (by omega) | exact J1 _ (by omega) | exact J2 _ (by omega) | exact F0 _ (by omega) | exact F1 _ (by omega) | exact F2 _ (by omega) | exact F3 _ (by omega) | exact F4 _ (by omega) | exact P0 _ _ (by omega) (by omega) | exact P1 _ _ (by omega) (by omega) | exact P2 _ _ (by omega) (by omega))) (k := ?_)
  refine r_iconst hm rfl (k := ?_)
  refine r_icmp_ne (t := 24) hm rfl rfl (fun c7 => ?_) (fun c7 => ?_)
  · refine r_iconst hm rfl (k := ?_)
    refine r_ireturn hm rfl rfl (by first | rfl | decide) (Nat.le_of_ble_eq_true rfl) (Nat.le_of_ble_eq_true rfl) ?_
    exact ⟨rfl, by first | (rw [if_pos (by first | assumption | omega | (simp_all; done))]; done) | (rw [if_neg (by first | assumption | omega | (simp_all; done))]; done)⟩
  · refine r_aload_n hm rfl (k := ?_)
    refine r_getR (hm := hm) (hf := rfl) (hd := rfl) (hs := (by first | assumption | exact I1 _ (by omega) | exact I2 _ (by omega) | exact I3 _ (by omega) | exact I4 _ (by omega))) (hv := (by first | assumption | exact I0 _ (by omega) | exact J0 _ (by omega) | exact J1 _ (by omega) | exact J2 _ (by omega) | exact F0 _ (by omega) | exact F1 _ (by omega) | exact F2 _ (by omega) | exact F3 _ (by omega) | exact F4 _ (by omega) | exact P0 _ _ (by omega) (by omega) | exact P1 _ _ (by omega) (by omega) | exact P2 _ _ (by omega) (by omega))) (k := ?_)
    refine r_iload_n hm rfl (k := ?_)
    refine r_iald (hm := hm) (hf := rfl) (hs := (by first | assumption | exact I1 _ (by omega) | exact I2 _ (by omega) | exact I3 _ (by omega) | exact I4 _ (by omega))) (hi := rfl) (hn := (by omega)) (hv := (by first | assumption | exact I0 _ (by omega) | exact J0 _ (by omega) | exact J1 _ (by omega) | exact J2 _ (by omega) | exact F0 _ (by omega) | exact F1 _ (by omega) | exact F2 _ (by omega) | exact F3 _ (by omega) | exact F4 _ (by omega) | exact P0 _ _ (by omega) (by omega) | exact P1 _ _ (by omega) (by omega) | exact P2 _ _ (by omega) (by omega))) (k := ?_)
    refine r_iload_n hm rfl (k := ?_)
    refine r_icmp_ne (t := 24) hm rfl rfl (fun c17 => ?_) (fun c17 => ?_)
    · refine r_iconst hm rfl (k := ?_)
      refine r_ireturn hm rfl rfl (by first | rfl | decide) (Nat.le_of_ble_eq_true rfl) (Nat.le_of_ble_eq_true rfl) ?_
      exact ⟨rfl, by first | (rw [if_pos (by first | assumption | omega | (simp_all; done))]; done) | (rw [if_neg (by first | assumption | omega | (simp_all; done))]; done)⟩
    · refine r_iconst hm rfl (k := ?_)
      refine r_goto (t := 25) hm rfl (k := ?_)
      refine r_ireturn hm rfl rfl (by first | rfl | decide) (Nat.le_of_ble_eq_true rfl) (Nat.le_of_ble_eq_true rfl) ?_
      exact ⟨rfl, by first | (rw [if_pos (by first | assumption | omega | (simp_all; done))]; done) | (rw [if_neg (by first | assumption | omega | (simp_all; done))]; done)⟩
/-- the list i lists the item q -/
def lst (x : Tx) (i q : Nat) : Prop := (x.2.1 1 i = 4 ∧ x.2.1 1 q = 0 ∧ x.2.1 2 q ≤ x.2.1 2 i) ∨ (x.2.1 1 i = 5 ∧ x.2.1 1 q = 2) ∨ (x.2.1 1 i = 6 ∧ x.2.1 1 q = 3)
theorem lst_dec (x : Tx) (i q : Nat) : lst x i q ∨ ¬ lst x i q := Classical.em _
def lstB (x : Tx) (i q : Nat) : Bool := decide ((x.2.1 1 i = 4 ∧ x.2.1 1 q = 0 ∧ x.2.1 2 q ≤ x.2.1 2 i) ∨ (x.2.1 1 i = 5 ∧ x.2.1 1 q = 2) ∨ (x.2.1 1 i = 6 ∧ x.2.1 1 q = 3))
theorem c_lists {L : Nat} {h : Hp} {t : Nat} {x : Tx} (g : GG L h) (ht : isT t) (hR : RepC h t x) {i q : Nat} (hi : i < x.1) (hq : q < x.1) : RN 73 0 [some (.inr (.inr (some t))), some (.inr (.inr (some (itm h t i)))), some (.inr (.inr (some (itm h t q))))] [] h 0 0 (fun v h2 => h2 = h ∧ v = some (.inl (if lstB x i q = true then 1 else 0))) := by
  obtain ⟨T1, T2, T3, T4, T5, T6, T7⟩ := g.tx ht
  obtain ⟨I0, I1, I2, I3, I4, J0, J1, J2, F0, F1, F2, F3, F4, P0, P1, P2⟩ := hR.use g ht
  obtain ⟨R1, R2, -⟩ := id hR
  have hm : mrec 73 = some nM73 := rfl
  refine r_aload_n hm rfl (k := ?_)
  refine r_getI (hm := hm) (hf := rfl) (hd := rfl) (hs := (by first | assumption | exact I1 _ (by omega) | exact I2 _ (by omega) | exact I3 _ (by omega) | exact I4 _ (by omega))) (hv := (by first | assumption | exact I0 _ (by omega) | exact J0 _ (by omega) | exact J1 _ (by omega) | exact J2 _ (by omega) | exact F0 _ (by omega) | exact F1 _ (by omega) | exact F2 _ (by omega) | exact F3 _ (by omega) | exact F4 _ (by omega) | exact P0 _ _ (by omega) (by omega) | exact P1 _ _ (by omega) (by omega) | exact P2 _ _ (by omega) (by omega))) (k := ?_)
  by_cases s4_4 : x.2.1 1 i = 4
  · refine r_tsw hm rfl 32 (fun q => by omega) (fun q => ⟨28, by rw [s4_4]; rfl, rfl⟩) ?_
    refine r_aload_n hm rfl (k := ?_)
    refine r_getI (hm := hm) (hf := rfl) (hd := rfl) (hs := (by first | assumption | exact I1 _ (by omega) | exact I2 _ (by omega) | exact I3 _ (by omega) | exact I4 _ (by omega))) (hv := (by first | assumption | exact I0 _ (by omega) | exact J0 _ (by omega) | exact J1 _ (by omega) | exact J2 _ (by omega) | exact F0 _ (by omega) | exact F1 _ (by omega) | exact F2 _ (by omega) | exact F3 _ (by omega) | exact F4 _ (by omega) | exact P0 _ _ (by omega) (by omega) | exact P1 _ _ (by omega) (by omega) | exact P2 _ _ (by omega) (by omega))) (k := ?_)
    refine r_if_ne (t := 54) hm rfl rfl (fun c36 => ?_) (fun c36 => ?_)
    · refine r_iconst hm rfl (k := ?_)
      refine r_ireturn hm rfl rfl (by first | rfl | decide) (Nat.le_of_ble_eq_true rfl) (Nat.le_of_ble_eq_true rfl) ?_
      exact ⟨rfl, by unfold lstB; first | (rw [if_pos (by rw [decide_eq_true_eq]; omega)]; done) | (rw [if_neg (by rw [decide_eq_true_eq]; omega)]; done)⟩
    · refine r_aload_n hm rfl (k := ?_)
      refine r_getI (hm := hm) (hf := rfl) (hd := rfl) (hs := (by first | assumption | exact I1 _ (by omega) | exact I2 _ (by omega) | exact I3 _ (by omega) | exact I4 _ (by omega))) (hv := (by first | assumption | exact I0 _ (by omega) | exact J0 _ (by omega) | exact J1 _ (by omega) | exact J2 _ (by omega) | exact F0 _ (by omega) | exact F1 _ (by omega) | exact F2 _ (by omega) | exact F3 _ (by omega) | exact F4 _ (by omega) | exact P0 _ _ (by omega) (by omega) | exact P1 _ _ (by omega) (by omega) | exact P2 _ _ (by omega) (by omega))) (k := ?_)
      refine r_aload_n hm rfl (k := ?_)
      refine r_getI (hm := hm) (hf := rfl) (hd := rfl) (hs := (by first | assumption | exact I1 _ (by omega) | exact I2 _ (by omega) | exact I3 _ (by omega) | exact I4 _ (by omega))) (hv := (by first | assumption | exact I0 _ (by omega) | exact J0 _ (by omega) | exact J1 _ (by omega) | exact J2 _ (by omega) | exact F0 _ (by omega) | exact F1 _ (by omega) | exact F2 _ (by omega) | exact F3 _ (by omega) | exact F4 _ (by omega) | exact P0 _ _ (by omega) (by omega) | exact P1 _ _ (by omega) (by omega) | exact P2 _ _ (by omega) (by omega))) (k := ?_)
      refine r_icmp_gt (t := 54) hm rfl rfl (fun c47 => ?_) (fun c47 => ?_)
      · refine r_iconst hm rfl (k := ?_)
        refine r_ireturn hm rfl rfl (by first | rfl | decide) (Nat.le_of_ble_eq_true rfl) (Nat.le_of_ble_eq_true rfl) ?_
        exact ⟨rfl, by unfold lstB; first | (rw [if_pos (by rw [decide_eq_true_eq]; omega)]; done) | (rw [if_neg (by rw [decide_eq_true_eq]; omega)]; done)⟩
      · refine r_iconst hm rfl (k := ?_)
        refine r_goto (t := 55) hm rfl (k := ?_)
        refine r_ireturn hm rfl rfl (by first | rfl | decide) (Nat.le_of_ble_eq_true rfl) (Nat.le_of_ble_eq_true rfl) ?_
        exact ⟨rfl, by unfold lstB; first | (rw [if_pos (by rw [decide_eq_true_eq]; omega)]; done) | (rw [if_neg (by rw [decide_eq_true_eq]; omega)]; done)⟩
  by_cases s4_5 : x.2.1 1 i = 5
  · refine r_tsw hm rfl 56 (fun q => by omega) (fun q => ⟨52, by rw [s4_5]; rfl, rfl⟩) ?_
    refine r_aload_n hm rfl (k := ?_)
    refine r_getI (hm := hm) (hf := rfl) (hd := rfl) (hs := (by first | assumption | exact I1 _ (by omega) | exact I2 _ (by omega) | exact I3 _ (by omega) | exact I4 _ (by omega))) (hv := (by first | assumption | exact I0 _ (by omega) | exact J0 _ (by omega) | exact J1 _ (by omega) | exact J2 _ (by omega) | exact F0 _ (by omega) | exact F1 _ (by omega) | exact F2 _ (by omega) | exact F3 _ (by omega) | exact F4 _ (by omega) | exact P0 _ _ (by omega) (by omega) | exact P1 _ _ (by omega) (by omega) | exact P2 _ _ (by omega) (by omega))) (k := ?_)
    refine r_iconst hm rfl (k := ?_)
    refine r_icmp_ne (t := 68) hm rfl rfl (fun c61 => ?_) (fun c61 => ?_)
    · refine r_iconst hm rfl (k := ?_)
      refine r_ireturn hm rfl rfl (by first | rfl | decide) (Nat.le_of_ble_eq_true rfl) (Nat.le_of_ble_eq_true rfl) ?_
      exact ⟨rfl, by unfold lstB; first | (rw [if_pos (by rw [decide_eq_true_eq]; omega)]; done) | (rw [if_neg (by rw [decide_eq_true_eq]; omega)]; done)⟩
    · refine r_iconst hm rfl (k := ?_)
      refine r_goto (t := 69) hm rfl (k := ?_)
      refine r_ireturn hm rfl rfl (by first | rfl | decide) (Nat.le_of_ble_eq_true rfl) (Nat.le_of_ble_eq_true rfl) ?_
      exact ⟨rfl, by unfold lstB; first | (rw [if_pos (by rw [decide_eq_true_eq]; omega)]; done) | (rw [if_neg (by rw [decide_eq_true_eq]; omega)]; done)⟩
  by_cases s4_6 : x.2.1 1 i = 6
  · refine r_tsw hm rfl 70 (fun q => by omega) (fun q => ⟨66, by rw [s4_6]; rfl, rfl⟩) ?_
    refine r_aload_n hm rfl (k := ?_)
    refine r_getI (hm := hm) (hf := rfl) (hd := rfl) (hs := (by first | assumption | exact I1 _ (by omega) | exact I2 _ (by omega) | exact I3 _ (by omega) | exact I4 _ (by omega))) (hv := (by first | assumption | exact I0 _ (by omega) | exact J0 _ (by omega) | exact J1 _ (by omega) | exact J2 _ (by omega) | exact F0 _ (by omega) | exact F1 _ (by omega) | exact F2 _ (by omega) | exact F3 _ (by omega) | exact F4 _ (by omega) | exact P0 _ _ (by omega) (by omega) | exact P1 _ _ (by omega) (by omega) | exact P2 _ _ (by omega) (by omega))) (k := ?_)
    refine r_iconst hm rfl (k := ?_)
    refine r_icmp_ne (t := 82) hm rfl rfl (fun c75 => ?_) (fun c75 => ?_)
    · refine r_iconst hm rfl (k := ?_)
      refine r_ireturn hm rfl rfl (by first | rfl | decide) (Nat.le_of_ble_eq_true rfl) (Nat.le_of_ble_eq_true rfl) ?_
      exact ⟨rfl, by unfold lstB; first | (rw [if_pos (by rw [decide_eq_true_eq]; omega)]; done) | (rw [if_neg (by rw [decide_eq_true_eq]; omega)]; done)⟩
    · refine r_iconst hm rfl (k := ?_)
      refine r_goto (t := 83) hm rfl (k := ?_)
      refine r_ireturn hm rfl rfl (by first | rfl | decide) (Nat.le_of_ble_eq_true rfl) (Nat.le_of_ble_eq_true rfl) ?_
      exact ⟨rfl, by unfold lstB; first | (rw [if_pos (by rw [decide_eq_true_eq]; omega)]; done) | (rw [if_neg (by rw [decide_eq_true_eq]; omega)]; done)⟩
  refine r_tsw hm rfl 84 (fun q => rfl) (fun q => by exfalso; omega) ?_
  refine r_iconst hm rfl (k := ?_)
  refine r_ireturn hm rfl rfl (by first | rfl | decide) (Nat.le_of_ble_eq_true rfl) (Nat.le_of_ble_eq_true rfl) ?_
  exact ⟨rfl, by unfold lstB; first | (rw [if_pos (by rw [decide_eq_true_eq]; omega)]; done) | (rw [if_neg (by rw [decide_eq_true_eq]; omega)]; done)⟩
/-- the place of the k-th that has p, c of them being passed -/
def nth (p : Nat → Bool) (k : Int) : Nat → Nat → Int → Int
  | _, 0, _ => -1
  | i, d + 1, c => if p i then (if c = k then (i : Int) else nth p k (i + 1) d (c + 1)) else nth p k (i + 1) d c
theorem c_listed_l {L : Nat} {h : Hp} {t : Nat} {x : Tx} (g : GG L h) (ht : isT t) (hR : RepC h t x) {i : Nat} {k r : Int} (hi : i < x.1) : ∀ d q c, q + d = x.1 → 0 ≤ c ∧ c ≤ q → nth (lstB x i) k q d c = r → RN 103 5 [some (.inr (.inr (some t))), some (.inr (.inr (some (itm h t i)))), some (.inl k), some (.inl c), some (.inl (q : Int))] [] h 0 0 (fun v h2 => h2 = h ∧ v = some (.inl r)) := by
  obtain ⟨T1, T2, T3, T4, T5, T6, T7⟩ := g.tx ht
  obtain ⟨I0, I1, I2, I3, I4, J0, J1, J2, F0, F1, F2, F3, F4, P0, P1, P2⟩ := hR.use g ht
  obtain ⟨R1, R2, -⟩ := id hR
  have hm : mrec 103 = some nM103 := rfl
  intro d
  induction d with
  | zero =>
    intro q c hq hc hr
    refine r_iload hm rfl (k := ?_)
    refine r_aload_n hm rfl (k := ?_)
    refine r_getI (hm := hm) (hf := rfl) (hd := rfl) (hs := (by first | assumption | exact I1 _ (by omega) | exact I2 _ (by omega) | exact I3 _ (by omega) | exact I4 _ (by omega))) (hv := (by first | assumption | exact I0 _ (by omega) | exact J0 _ (by omega) | exact J1 _ (by omega) | exact J2 _ (by omega) | exact F0 _ (by omega) | exact F1 _ (by omega) | exact F2 _ (by omega) | exact F3 _ (by omega) | exact F4 _ (by omega) | exact P0 _ _ (by omega) (by omega) | exact P1 _ _ (by omega) (by omega) | exact P2 _ _ (by omega) (by omega))) (k := ?_)
    refine r_icmp_ge (t := 46) hm rfl rfl (fun c11 => ?_) (fun c11 => ?_)
    · refine r_iconst hm rfl (k := ?_)
      refine r_ireturn hm rfl rfl (by rfl) (Nat.le_of_ble_eq_true rfl) (Nat.le_of_ble_eq_true rfl) ?_
      exact ⟨rfl, by rw [← hr]; rfl⟩
    · exfalso; omega
  | succ d ih =>
    intro q c hq hc hr
    refine r_iload hm rfl (k := ?_)
    refine r_aload_n hm rfl (k := ?_)
    refine r_getI (hm := hm) (hf := rfl) (hd := rfl) (hs := (by first | assumption | exact I1 _ (by omega) | exact I2 _ (by omega) | exact I3 _ (by omega) | exact I4 _ (by omega))) (hv := (by first | assumption | exact I0 _ (by omega) | exact J0 _ (by omega) | exact J1 _ (by omega) | exact J2 _ (by omega) | exact F0 _ (by omega) | exact F1 _ (by omega) | exact F2 _ (by omega) | exact F3 _ (by omega) | exact F4 _ (by omega) | exact P0 _ _ (by omega) (by omega) | exact P1 _ _ (by omega) (by omega) | exact P2 _ _ (by omega) (by omega))) (k := ?_)
    refine r_icmp_ge (t := 46) hm rfl rfl (fun c11 => ?_) (fun c11 => ?_)
    · exfalso; omega
    · refine r_aload_n hm rfl (k := ?_)
      refine r_aload_n hm rfl (k := ?_)
      refine r_aload_n hm rfl (k := ?_)
      refine r_getR (hm := hm) (hf := rfl) (hd := rfl) (hs := (by first | assumption | exact I1 _ (by omega) | exact I2 _ (by omega) | exact I3 _ (by omega) | exact I4 _ (by omega))) (hv := (by first | assumption | exact I0 _ (by omega) | exact J0 _ (by omega) | exact J1 _ (by omega) | exact J2 _ (by omega) | exact F0 _ (by omega) | exact F1 _ (by omega) | exact F2 _ (by omega) | exact F3 _ (by omega) | exact F4 _ (by omega) | exact P0 _ _ (by omega) (by omega) | exact P1 _ _ (by omega) (by omega) | exact P2 _ _ (by omega) (by omega))) (k := ?_)
      refine r_iload hm rfl (k := ?_)
      refine r_aald (hm := hm) (hf := rfl) (hs := (by first | assumption | exact I1 _ (by omega) | exact I2 _ (by omega) | exact I3 _ (by omega) | exact I4 _ (by omega))) (hkd := by decide) (hi := rfl) (hn := (by omega)) (hv := (by first | assumption | exact I0 _ (by omega) | exact J0 _ (by omega) | exact J1 _ (by omega) | exact J2 _ (by omega) | exact F0 _ (by omega) | exact F1 _ (by omega) | exact F2 _ (by omega) | exact F3 _ (by omega) | exact F4 _ (by omega) | exact P0 _ _ (by omega) (by omega) | exact P1 _ _ (by omega) (by omega) | exact P2 _ _ (by omega) (by omega))) (k := ?_)
      refine r_callv (j2 := 73) hm rfl rfl rfl rfl rfl rfl (by first | assumption | exact I1 _ (by omega) | exact I2 _ (by omega) | exact I3 _ (by omega) | exact I4 _ (by omega)) (Nat.le_of_ble_eq_true rfl) (Nat.le_of_ble_eq_true rfl) rfl ⟨Nat.le_of_ble_eq_true rfl, Nat.le_of_ble_eq_true rfl, Nat.le_of_ble_eq_true rfl, Nat.le_of_ble_eq_true rfl, Nat.le_of_ble_eq_true rfl⟩ rfl (c_lists g ht hR hi (by omega)) (fun v9 h9 p9 => ?_)
      obtain ⟨e1, e2⟩ := p9
      subst e2
      subst e1
      change RN 103 26 _ _ _ 0 0 _
      dsimp only [Option.toList, List.cons_append, List.nil_append]
      refine r_if_eq (t := 40) hm rfl rfl (fun c26 => ?_) (fun c26 => ?_)
      · refine r_iinc hm rfl (hr := (by omega)) (k := ?_)
        refine r_goto (t := 5) hm rfl (k := ?_)
        first | exact ih (q + 1) (c + 1) (by omega) (by omega) (by by_cases hp : lstB x i q = true <;> simp_all [nth]) | exact ih (q + 1) c (by omega) (by omega) (by by_cases hp : lstB x i q = true <;> simp_all [nth])
      · refine r_iload_n hm rfl (k := ?_)
        refine r_iload_n hm rfl (k := ?_)
        refine r_icmp_ne (t := 37) hm rfl rfl (fun c31 => ?_) (fun c31 => ?_)
        · refine r_iinc hm rfl (hr := (by omega)) (k := ?_)
          refine r_iinc hm rfl (hr := (by omega)) (k := ?_)
          refine r_goto (t := 5) hm rfl (k := ?_)
          first | exact ih (q + 1) (c + 1) (by omega) (by omega) (by by_cases hp : lstB x i q = true <;> simp_all [nth]) | exact ih (q + 1) c (by omega) (by omega) (by by_cases hp : lstB x i q = true <;> simp_all [nth])
        · refine r_iload hm rfl (k := ?_)
          refine r_ireturn hm rfl rfl (by rfl) (Nat.le_of_ble_eq_true rfl) (Nat.le_of_ble_eq_true rfl) ?_
          exact ⟨rfl, by rw [← hr]; by_cases hp : lstB x i q = true <;> simp_all [nth]⟩
theorem c_listed {L : Nat} {h : Hp} {t : Nat} {x : Tx} (g : GG L h) (ht : isT t) (hR : RepC h t x) {i : Nat} {k : Int} (hi : i < x.1) : RN 103 0 [some (.inr (.inr (some t))), some (.inr (.inr (some (itm h t i)))), some (.inl k), none, none] [] h 0 0 (fun v h2 => h2 = h ∧ v = some (.inl (nth (lstB x i) k 0 x.1 0))) := by
  obtain ⟨T1, T2, T3, T4, T5, T6, T7⟩ := g.tx ht
  obtain ⟨I0, I1, I2, I3, I4, J0, J1, J2, F0, F1, F2, F3, F4, P0, P1, P2⟩ := hR.use g ht
  obtain ⟨R1, R2, -⟩ := id hR
  have hm : mrec 103 = some nM103 := rfl
  refine r_iconst hm rfl (k := ?_)
  refine r_istore_n hm rfl (k := ?_)
  refine r_iconst hm rfl (k := ?_)
  refine r_istore hm rfl (k := ?_)
  exact c_listed_l g ht hR hi x.1 0 0 (by omega) (by omega) rfl
theorem c_countListed_l {L : Nat} {h : Hp} {t : Nat} {x : Tx} (g : GG L h) (ht : isT t) (hR : RepC h t x) {i : Nat} {r : Int} (hi : i < x.1) : ∀ d q c, q + d = x.1 → 0 ≤ c ∧ c ≤ q → c + sm (fun q => if lstB x i q = true then 1 else 0) q d = r → RN 72 4 [some (.inr (.inr (some t))), some (.inr (.inr (some (itm h t i)))), some (.inl c), some (.inl (q : Int))] [] h 0 0 (fun v h2 => h2 = h ∧ v = some (.inl r)) := by
  obtain ⟨T1, T2, T3, T4, T5, T6, T7⟩ := g.tx ht
  obtain ⟨I0, I1, I2, I3, I4, J0, J1, J2, F0, F1, F2, F3, F4, P0, P1, P2⟩ := hR.use g ht
  obtain ⟨R1, R2, -⟩ := id hR
  have hm : mrec 72 = some nM72 := rfl
  intro d
  induction d with
  | zero =>
    intro q c hq hc hr
    refine r_iload_n hm rfl (k := ?_)
    refine r_aload_n hm rfl (k := ?_)
    refine r_getI (hm := hm) (hf := rfl) (hd := rfl) (hs := (by first | assumption | exact I1 _ (by omega) | exact I2 _ (by omega) | exact I3 _ (by omega) | exact I4 _ (by omega))) (hv := (by first | assumption | exact I0 _ (by omega) | exact J0 _ (by omega) | exact J1 _ (by omega) | exact J2 _ (by omega) | exact F0 _ (by omega) | exact F1 _ (by omega) | exact F2 _ (by omega) | exact F3 _ (by omega) | exact F4 _ (by omega) | exact P0 _ _ (by omega) (by omega) | exact P1 _ _ (by omega) (by omega) | exact P2 _ _ (by omega) (by omega))) (k := ?_)
    refine r_icmp_ge (t := 35) hm rfl rfl (fun c9 => ?_) (fun c9 => ?_)
    · refine r_iload_n hm rfl (k := ?_)
      refine r_ireturn hm rfl rfl (by rfl) (Nat.le_of_ble_eq_true rfl) (Nat.le_of_ble_eq_true rfl) ?_
      exact ⟨rfl, by rw [← hr]; simp [sm]⟩
    · exfalso; omega
  | succ d ih =>
    intro q c hq hc hr
    refine r_iload_n hm rfl (k := ?_)
    refine r_aload_n hm rfl (k := ?_)
    refine r_getI (hm := hm) (hf := rfl) (hd := rfl) (hs := (by first | assumption | exact I1 _ (by omega) | exact I2 _ (by omega) | exact I3 _ (by omega) | exact I4 _ (by omega))) (hv := (by first | assumption | exact I0 _ (by omega) | exact J0 _ (by omega) | exact J1 _ (by omega) | exact J2 _ (by omega) | exact F0 _ (by omega) | exact F1 _ (by omega) | exact F2 _ (by omega) | exact F3 _ (by omega) | exact F4 _ (by omega) | exact P0 _ _ (by omega) (by omega) | exact P1 _ _ (by omega) (by omega) | exact P2 _ _ (by omega) (by omega))) (k := ?_)
    refine r_icmp_ge (t := 35) hm rfl rfl (fun c9 => ?_) (fun c9 => ?_)
    · exfalso; omega
    · refine r_aload_n hm rfl (k := ?_)
      refine r_aload_n hm rfl (k := ?_)
      refine r_aload_n hm rfl (k := ?_)
      refine r_getR (hm := hm) (hf := rfl) (hd := rfl) (hs := (by first | assumption | exact I1 _ (by omega) | exact I2 _ (by omega) | exact I3 _ (by omega) | exact I4 _ (by omega))) (hv := (by first | assumption | exact I0 _ (by omega) | exact J0 _ (by omega) | exact J1 _ (by omega) | exact J2 _ (by omega) | exact F0 _ (by omega) | exact F1 _ (by omega) | exact F2 _ (by omega) | exact F3 _ (by omega) | exact F4 _ (by omega) | exact P0 _ _ (by omega) (by omega) | exact P1 _ _ (by omega) (by omega) | exact P2 _ _ (by omega) (by omega))) (k := ?_)
      refine r_iload_n hm rfl (k := ?_)
      refine r_aald (hm := hm) (hf := rfl) (hs := (by first | assumption | exact I1 _ (by omega) | exact I2 _ (by omega) | exact I3 _ (by omega) | exact I4 _ (by omega))) (hkd := by decide) (hi := rfl) (hn := (by omega)) (hv := (by first | assumption | exact I0 _ (by omega) | exact J0 _ (by omega) | exact J1 _ (by omega) | exact J2 _ (by omega) | exact F0 _ (by omega) | exact F1 _ (by omega) | exact F2 _ (by omega) | exact F3 _ (by omega) | exact F4 _ (by omega) | exact P0 _ _ (by omega) (by omega) | exact P1 _ _ (by omega) (by omega) | exact P2 _ _ (by omega) (by omega))) (k := ?_)
      refine r_callv (j2 := 73) hm rfl rfl rfl rfl rfl rfl (by first | assumption | exact I1 _ (by omega) | exact I2 _ (by omega) | exact I3 _ (by omega) | exact I4 _ (by omega)) (Nat.le_of_ble_eq_true rfl) (Nat.le_of_ble_eq_true rfl) rfl ⟨Nat.le_of_ble_eq_true rfl, Nat.le_of_ble_eq_true rfl, Nat.le_of_ble_eq_true rfl, Nat.le_of_ble_eq_true rfl, Nat.le_of_ble_eq_true rfl⟩ rfl (c_lists g ht hR hi (by omega)) (fun v9 h9 p9 => ?_)
      obtain ⟨e1, e2⟩ := p9
      subst e2
      subst e1
      change RN 72 23 _ _ _ 0 0 _
      dsimp only [Option.toList, List.cons_append, List.nil_append]
      refine r_if_eq (t := 29) hm rfl rfl (fun c23 => ?_) (fun c23 => ?_)
      · refine r_iinc hm rfl (hr := (by omega)) (k := ?_)
        refine r_goto (t := 4) hm rfl (k := ?_)
        first | exact ih (q + 1) (c + 1) (by omega) (by omega) (by by_cases hp : lstB x i q = true <;> simp_all [sm] <;> omega) | exact ih (q + 1) c (by omega) (by omega) (by by_cases hp : lstB x i q = true <;> simp_all [sm] <;> omega)
      · refine r_iinc hm rfl (hr := (by omega)) (k := ?_)
        refine r_iinc hm rfl (hr := (by omega)) (k := ?_)
        refine r_goto (t := 4) hm rfl (k := ?_)
        first | exact ih (q + 1) (c + 1) (by omega) (by omega) (by by_cases hp : lstB x i q = true <;> simp_all [sm] <;> omega) | exact ih (q + 1) c (by omega) (by omega) (by by_cases hp : lstB x i q = true <;> simp_all [sm] <;> omega)
theorem c_countListed {L : Nat} {h : Hp} {t : Nat} {x : Tx} (g : GG L h) (ht : isT t) (hR : RepC h t x) {i : Nat} (hi : i < x.1) : RN 72 0 [some (.inr (.inr (some t))), some (.inr (.inr (some (itm h t i)))), none, none] [] h 0 0 (fun v h2 => h2 = h ∧ v = some (.inl (sm (fun q => if lstB x i q = true then 1 else 0) 0 x.1))) := by
  obtain ⟨T1, T2, T3, T4, T5, T6, T7⟩ := g.tx ht
  obtain ⟨I0, I1, I2, I3, I4, J0, J1, J2, F0, F1, F2, F3, F4, P0, P1, P2⟩ := hR.use g ht
  obtain ⟨R1, R2, -⟩ := id hR
  have hm : mrec 72 = some nM72 := rfl
  refine r_iconst hm rfl (k := ?_)
  refine r_istore_n hm rfl (k := ?_)
  refine r_iconst hm rfl (k := ?_)
  refine r_istore_n hm rfl (k := ?_)
  exact c_countListed_l g ht hR hi x.1 0 0 (by omega) (by omega) (by omega)
theorem c_countAllPieces_l {L : Nat} {h : Hp} {t : Nat} {x : Tx} (g : GG L h) (ht : isT t) (hR : RepC h t x) (hok : okTx x) {r : Int} : ∀ (d i : Nat) (c : Int), i + d = x.1 → 0 ≤ c ∧ c ≤ 20 * i → c + sm (x.2.1 4) i d = r → RN 88 4 [some (.inr (.inr (some t))), some (.inl c), some (.inl (i : Int))] [] h 0 0 (fun v h2 => h2 = h ∧ v = some (.inl r)) := by
  obtain ⟨T1, T2, T3, T4, T5, T6, T7⟩ := g.tx ht
  obtain ⟨I0, I1, I2, I3, I4, J0, J1, J2, F0, F1, F2, F3, F4, P0, P1, P2⟩ := hR.use g ht
  obtain ⟨R1, R2, -⟩ := id hR
  have hm : mrec 88 = some nM88 := rfl
  intro d
  induction d with
  | zero =>
    intro i c hi hc hr
    refine r_iload_n hm rfl (k := ?_)
    refine r_aload_n hm rfl (k := ?_)
    refine r_getI (hm := hm) (hf := rfl) (hd := rfl) (hs := (by first | assumption | exact I1 _ (by omega) | exact I2 _ (by omega) | exact I3 _ (by omega) | exact I4 _ (by omega))) (hv := (by first | assumption | exact I0 _ (by omega) | exact J0 _ (by omega) | exact J1 _ (by omega) | exact J2 _ (by omega) | exact F0 _ (by omega) | exact F1 _ (by omega) | exact F2 _ (by omega) | exact F3 _ (by omega) | exact F4 _ (by omega) | exact P0 _ _ (by omega) (by omega) | exact P1 _ _ (by omega) (by omega) | exact P2 _ _ (by omega) (by omega))) (k := ?_)
    refine r_icmp_ge (t := 30) hm rfl rfl (fun c9 => ?_) (fun c9 => ?_)
    · refine r_iload_n hm rfl (k := ?_)
      refine r_ireturn hm rfl rfl (by rfl) (Nat.le_of_ble_eq_true rfl) (Nat.le_of_ble_eq_true rfl) ?_
      exact ⟨rfl, by rw [← hr]; simp [sm]⟩
    · exfalso; omega
  | succ d ih =>
    intro i c hi hc hr
    have hki := hok.2.1 i (by omega)
    unfold okIt at hki
    refine r_iload_n hm rfl (k := ?_)
    refine r_aload_n hm rfl (k := ?_)
    refine r_getI (hm := hm) (hf := rfl) (hd := rfl) (hs := (by first | assumption | exact I1 _ (by omega) | exact I2 _ (by omega) | exact I3 _ (by omega) | exact I4 _ (by omega))) (hv := (by first | assumption | exact I0 _ (by omega) | exact J0 _ (by omega) | exact J1 _ (by omega) | exact J2 _ (by omega) | exact F0 _ (by omega) | exact F1 _ (by omega) | exact F2 _ (by omega) | exact F3 _ (by omega) | exact F4 _ (by omega) | exact P0 _ _ (by omega) (by omega) | exact P1 _ _ (by omega) (by omega) | exact P2 _ _ (by omega) (by omega))) (k := ?_)
    refine r_icmp_ge (t := 30) hm rfl rfl (fun c9 => ?_) (fun c9 => ?_)
    · exfalso; omega
    · refine r_iload_n hm rfl (k := ?_)
      refine r_aload_n hm rfl (k := ?_)
      refine r_getR (hm := hm) (hf := rfl) (hd := rfl) (hs := (by first | assumption | exact I1 _ (by omega) | exact I2 _ (by omega) | exact I3 _ (by omega) | exact I4 _ (by omega))) (hv := (by first | assumption | exact I0 _ (by omega) | exact J0 _ (by omega) | exact J1 _ (by omega) | exact J2 _ (by omega) | exact F0 _ (by omega) | exact F1 _ (by omega) | exact F2 _ (by omega) | exact F3 _ (by omega) | exact F4 _ (by omega) | exact P0 _ _ (by omega) (by omega) | exact P1 _ _ (by omega) (by omega) | exact P2 _ _ (by omega) (by omega))) (k := ?_)
      refine r_iload_n hm rfl (k := ?_)
      refine r_aald (hm := hm) (hf := rfl) (hs := (by first | assumption | exact I1 _ (by omega) | exact I2 _ (by omega) | exact I3 _ (by omega) | exact I4 _ (by omega))) (hkd := by decide) (hi := rfl) (hn := (by omega)) (hv := (by first | assumption | exact I0 _ (by omega) | exact J0 _ (by omega) | exact J1 _ (by omega) | exact J2 _ (by omega) | exact F0 _ (by omega) | exact F1 _ (by omega) | exact F2 _ (by omega) | exact F3 _ (by omega) | exact F4 _ (by omega) | exact P0 _ _ (by omega) (by omega) | exact P1 _ _ (by omega) (by omega) | exact P2 _ _ (by omega) (by omega))) (k := ?_)
      refine r_getI (hm := hm) (hf := rfl) (hd := rfl) (hs := (by first | assumption | exact I1 _ (by omega) | exact I2 _ (by omega) | exact I3 _ (by omega) | exact I4 _ (by omega))) (hv := (by first | assumption | exact I0 _ (by omega) | exact J0 _ (by omega) | exact J1 _ (by omega) | exact J2 _ (by omega) | exact F0 _ (by omega) | exact F1 _ (by omega) | exact F2 _ (by omega) | exact F3 _ (by omega) | exact F4 _ (by omega) | exact P0 _ _ (by omega) (by omega) | exact P1 _ _ (by omega) (by omega) | exact P2 _ _ (by omega) (by omega))) (k := ?_)
      refine r_iadd hm rfl (hr := (by omega)) (k := ?_)
      refine r_istore_n hm rfl (k := ?_)
      refine r_iinc hm rfl (hr := (by omega)) (k := ?_)
      refine r_goto (t := 4) hm rfl (k := ?_)
      exact ih (i + 1) _ (by omega) (by omega) (by rw [← hr]; simp only [sm]; omega)
theorem c_countAllPieces {L : Nat} {h : Hp} {t : Nat} {x : Tx} (g : GG L h) (ht : isT t) (hR : RepC h t x) (hok : okTx x) : RN 88 0 [some (.inr (.inr (some t))), none, none] [] h 0 0 (fun v h2 => h2 = h ∧ v = some (.inl (sm (x.2.1 4) 0 x.1))) := by
  obtain ⟨T1, T2, T3, T4, T5, T6, T7⟩ := g.tx ht
  obtain ⟨I0, I1, I2, I3, I4, J0, J1, J2, F0, F1, F2, F3, F4, P0, P1, P2⟩ := hR.use g ht
  obtain ⟨R1, R2, -⟩ := id hR
  have hm : mrec 88 = some nM88 := rfl
  refine r_iconst hm rfl (k := ?_)
  refine r_istore_n hm rfl (k := ?_)
  refine r_iconst hm rfl (k := ?_)
  refine r_istore_n hm rfl (k := ?_)
  exact c_countAllPieces_l g ht hR hok x.1 0 0 (by omega) (by omega) (by omega)
theorem sm_le {f : Nat → Int} {B : Int} (hf : ∀ k, 0 ≤ f k ∧ f k ≤ B) : ∀ d i, 0 ≤ sm f i d ∧ sm f i d ≤ B * (d : Int) := by
  intro d
  induction d with
  | zero => intro i; simp [sm]
  | succ d ih =>
    intro i
    have h1 := ih (i + 1)
    have h2 := hf i
    simp only [sm]
    have h3 : B * ((d + 1 : Nat) : Int) = B * (d : Int) + B := by rw [Int.natCast_add, Int.mul_add]; simp
    omega
theorem c_countPieces_k {L : Nat} {h : Hp} {t : Nat} {x : Tx} (g : GG L h) (ht : isT t) (hR : RepC h t x) (hok : okTx x) {kd : Int} {i : Nat} {r : Int} {P : Option Vl → Hp → Prop} (hi : i < x.1) (hk9 : RN 89 54 [some (.inr (.inr (some t))), some (.inl kd), some (.inl r), some (.inl (i : Int)), some (.inl (x.2.1 4 i))] [] h 0 0 P) : ∀ (d k : Nat) (c : Int), ((k : Nat) : Int) + (d : Nat) = x.2.1 4 i → 0 ≤ c ∧ c ≤ 100000 - 20 + k → c + sm (fun k => if x.2.2.1 0 i k = kd then (1 : Int) else 0) k d = r → RN 89 15 [some (.inr (.inr (some t))), some (.inl kd), some (.inl c), some (.inl (i : Int)), some (.inl (k : Int))] [] h 0 0 P := by
  obtain ⟨T1, T2, T3, T4, T5, T6, T7⟩ := g.tx ht
  obtain ⟨I0, I1, I2, I3, I4, J0, J1, J2, F0, F1, F2, F3, F4, P0, P1, P2⟩ := hR.use g ht
  obtain ⟨R1, R2, -⟩ := id hR
  have hm : mrec 89 = some nM89 := rfl
  have hki := hok.2.1 i hi
  unfold okIt at hki
  intro d
  induction d with
  | zero =>
    intro k c hk hc hr
    refine r_iload hm rfl (k := ?_)
    refine r_aload_n hm rfl (k := ?_)
    refine r_getR (hm := hm) (hf := rfl) (hd := rfl) (hs := (by first | assumption | exact I1 _ (by omega) | exact I2 _ (by omega) | exact I3 _ (by omega) | exact I4 _ (by omega))) (hv := (by first | assumption | exact I0 _ (by omega) | exact J0 _ (by omega) | exact J1 _ (by omega) | exact J2 _ (by omega) | exact F0 _ (by omega) | exact F1 _ (by omega) | exact F2 _ (by omega) | exact F3 _ (by omega) | exact F4 _ (by omega) | exact P0 _ _ (by omega) (by omega) | exact P1 _ _ (by omega) (by omega) | exact P2 _ _ (by omega) (by omega))) (k := ?_)
    refine r_iload_n hm rfl (k := ?_)
    refine r_aald (hm := hm) (hf := rfl) (hs := (by first | assumption | exact I1 _ (by omega) | exact I2 _ (by omega) | exact I3 _ (by omega) | exact I4 _ (by omega))) (hkd := by decide) (hi := rfl) (hn := (by omega)) (hv := (by first | assumption | exact I0 _ (by omega) | exact J0 _ (by omega) | exact J1 _ (by omega) | exact J2 _ (by omega) | exact F0 _ (by omega) | exact F1 _ (by omega) | exact F2 _ (by omega) | exact F3 _ (by omega) | exact F4 _ (by omega) | exact P0 _ _ (by omega) (by omega) | exact P1 _ _ (by omega) (by omega) | exact P2 _ _ (by omega) (by omega))) (k := ?_)
    refine r_getI (hm := hm) (hf := rfl) (hd := rfl) (hs := (by first | assumption | exact I1 _ (by omega) | exact I2 _ (by omega) | exact I3 _ (by omega) | exact I4 _ (by omega))) (hv := (by first | assumption | exact I0 _ (by omega) | exact J0 _ (by omega) | exact J1 _ (by omega) | exact J2 _ (by omega) | exact F0 _ (by omega) | exact F1 _ (by omega) | exact F2 _ (by omega) | exact F3 _ (by omega) | exact F4 _ (by omega) | exact P0 _ _ (by omega) (by omega) | exact P1 _ _ (by omega) (by omega) | exact P2 _ _ (by omega) (by omega))) (k := ?_)
    refine r_icmp_ge (t := 54) hm rfl rfl (fun c26 => ?_) (fun c26 => ?_)
    · have e1 : c = r := by simpa [sm] using hr
      have e2 : (k : Int) = x.2.1 4 i := by omega
      rw [e1, e2]
      exact hk9
    · exfalso; omega
  | succ d ih =>
    intro k c hk hc hr
    refine r_iload hm rfl (k := ?_)
    refine r_aload_n hm rfl (k := ?_)
    refine r_getR (hm := hm) (hf := rfl) (hd := rfl) (hs := (by first | assumption | exact I1 _ (by omega) | exact I2 _ (by omega) | exact I3 _ (by omega) | exact I4 _ (by omega))) (hv := (by first | assumption | exact I0 _ (by omega) | exact J0 _ (by omega) | exact J1 _ (by omega) | exact J2 _ (by omega) | exact F0 _ (by omega) | exact F1 _ (by omega) | exact F2 _ (by omega) | exact F3 _ (by omega) | exact F4 _ (by omega) | exact P0 _ _ (by omega) (by omega) | exact P1 _ _ (by omega) (by omega) | exact P2 _ _ (by omega) (by omega))) (k := ?_)
    refine r_iload_n hm rfl (k := ?_)
    refine r_aald (hm := hm) (hf := rfl) (hs := (by first | assumption | exact I1 _ (by omega) | exact I2 _ (by omega) | exact I3 _ (by omega) | exact I4 _ (by omega))) (hkd := by decide) (hi := rfl) (hn := (by omega)) (hv := (by first | assumption | exact I0 _ (by omega) | exact J0 _ (by omega) | exact J1 _ (by omega) | exact J2 _ (by omega) | exact F0 _ (by omega) | exact F1 _ (by omega) | exact F2 _ (by omega) | exact F3 _ (by omega) | exact F4 _ (by omega) | exact P0 _ _ (by omega) (by omega) | exact P1 _ _ (by omega) (by omega) | exact P2 _ _ (by omega) (by omega))) (k := ?_)
    refine r_getI (hm := hm) (hf := rfl) (hd := rfl) (hs := (by first | assumption | exact I1 _ (by omega) | exact I2 _ (by omega) | exact I3 _ (by omega) | exact I4 _ (by omega))) (hv := (by first | assumption | exact I0 _ (by omega) | exact J0 _ (by omega) | exact J1 _ (by omega) | exact J2 _ (by omega) | exact F0 _ (by omega) | exact F1 _ (by omega) | exact F2 _ (by omega) | exact F3 _ (by omega) | exact F4 _ (by omega) | exact P0 _ _ (by omega) (by omega) | exact P1 _ _ (by omega) (by omega) | exact P2 _ _ (by omega) (by omega))) (k := ?_)
    refine r_icmp_ge (t := 54) hm rfl rfl (fun c26 => ?_) (fun c26 => ?_)
    · exfalso; omega
    · refine r_aload_n hm rfl (k := ?_)
      refine r_getR (hm := hm) (hf := rfl) (hd := rfl) (hs := (by first | assumption | exact I1 _ (by omega) | exact I2 _ (by omega) | exact I3 _ (by omega) | exact I4 _ (by omega))) (hv := (by first | assumption | exact I0 _ (by omega) | exact J0 _ (by omega) | exact J1 _ (by omega) | exact J2 _ (by omega) | exact F0 _ (by omega) | exact F1 _ (by omega) | exact F2 _ (by omega) | exact F3 _ (by omega) | exact F4 _ (by omega) | exact P0 _ _ (by omega) (by omega) | exact P1 _ _ (by omega) (by omega) | exact P2 _ _ (by omega) (by omega))) (k := ?_)
      refine r_iload_n hm rfl (k := ?_)
      refine r_aald (hm := hm) (hf := rfl) (hs := (by first | assumption | exact I1 _ (by omega) | exact I2 _ (by omega) | exact I3 _ (by omega) | exact I4 _ (by omega))) (hkd := by decide) (hi := rfl) (hn := (by omega)) (hv := (by first | assumption | exact I0 _ (by omega) | exact J0 _ (by omega) | exact J1 _ (by omega) | exact J2 _ (by omega) | exact F0 _ (by omega) | exact F1 _ (by omega) | exact F2 _ (by omega) | exact F3 _ (by omega) | exact F4 _ (by omega) | exact P0 _ _ (by omega) (by omega) | exact P1 _ _ (by omega) (by omega) | exact P2 _ _ (by omega) (by omega))) (k := ?_)
      refine r_getR (hm := hm) (hf := rfl) (hd := rfl) (hs := (by first | assumption | exact I1 _ (by omega) | exact I2 _ (by omega) | exact I3 _ (by omega) | exact I4 _ (by omega))) (hv := (by first | assumption | exact I0 _ (by omega) | exact J0 _ (by omega) | exact J1 _ (by omega) | exact J2 _ (by omega) | exact F0 _ (by omega) | exact F1 _ (by omega) | exact F2 _ (by omega) | exact F3 _ (by omega) | exact F4 _ (by omega) | exact P0 _ _ (by omega) (by omega) | exact P1 _ _ (by omega) (by omega) | exact P2 _ _ (by omega) (by omega))) (k := ?_)
      refine r_iload hm rfl (k := ?_)
      refine r_iald (hm := hm) (hf := rfl) (hs := (by first | assumption | exact I1 _ (by omega) | exact I2 _ (by omega) | exact I3 _ (by omega) | exact I4 _ (by omega))) (hi := rfl) (hn := (by omega)) (hv := (by first | assumption | exact I0 _ (by omega) | exact J0 _ (by omega) | exact J1 _ (by omega) | exact J2 _ (by omega) | exact F0 _ (by omega) | exact F1 _ (by omega) | exact F2 _ (by omega) | exact F3 _ (by omega) | exact F4 _ (by omega) | exact P0 _ _ (by omega) (by omega) | exact P1 _ _ (by omega) (by omega) | exact P2 _ _ (by omega) (by omega))) (k := ?_)
      refine r_iload_n hm rfl (k := ?_)
      refine r_icmp_ne (t := 48) hm rfl rfl (fun c42 => ?_) (fun c42 => ?_)
      · refine r_iinc hm rfl (hr := (by omega)) (k := ?_)
        refine r_goto (t := 15) hm rfl (k := ?_)
        first | exact ih (k + 1) (c + 1) (by omega) (by omega) (by rw [← hr]; simp only [sm]; first | (rw [if_pos (by first | assumption | omega | (simp_all; done))]; omega) | (simp_all; omega)) | exact ih (k + 1) c (by omega) (by omega) (by rw [← hr]; simp only [sm]; first | (rw [if_neg (by first | assumption | omega | (simp_all; done))]; omega) | (simp_all; omega))
      · refine r_iinc hm rfl (hr := (by omega)) (k := ?_)
        refine r_iinc hm rfl (hr := (by omega)) (k := ?_)
        refine r_goto (t := 15) hm rfl (k := ?_)
        first | exact ih (k + 1) (c + 1) (by omega) (by omega) (by rw [← hr]; simp only [sm]; first | (rw [if_pos (by first | assumption | omega | (simp_all; done))]; omega) | (simp_all; omega)) | exact ih (k + 1) c (by omega) (by omega) (by rw [← hr]; simp only [sm]; first | (rw [if_neg (by first | assumption | omega | (simp_all; done))]; omega) | (simp_all; omega))
theorem c_countPieces_l {L : Nat} {h : Hp} {t : Nat} {x : Tx} (g : GG L h) (ht : isT t) (hR : RepC h t x) (hok : okTx x) {kd : Int} {r : Int} : ∀ (d i : Nat) (c : Int) (z : Option Vl), i + d = x.1 → 0 ≤ c ∧ c ≤ 20 * (i : Int) → c + sm (fun i => sm (fun k => if x.2.2.1 0 i k = kd then (1 : Int) else 0) 0 (x.2.1 4 i).toNat) i d = r → RN 89 4 [some (.inr (.inr (some t))), some (.inl kd), some (.inl c), some (.inl (i : Int)), z] [] h 0 0 (fun v h2 => h2 = h ∧ v = some (.inl r)) := by
  obtain ⟨T1, T2, T3, T4, T5, T6, T7⟩ := g.tx ht
  obtain ⟨I0, I1, I2, I3, I4, J0, J1, J2, F0, F1, F2, F3, F4, P0, P1, P2⟩ := hR.use g ht
  obtain ⟨R1, R2, -⟩ := id hR
  have hm : mrec 89 = some nM89 := rfl
  intro d
  induction d with
  | zero =>
    intro i c z hi hc hr
    refine r_iload_n hm rfl (k := ?_)
    refine r_aload_n hm rfl (k := ?_)
    refine r_getI (hm := hm) (hf := rfl) (hd := rfl) (hs := (by first | assumption | exact I1 _ (by omega) | exact I2 _ (by omega) | exact I3 _ (by omega) | exact I4 _ (by omega))) (hv := (by first | assumption | exact I0 _ (by omega) | exact J0 _ (by omega) | exact J1 _ (by omega) | exact J2 _ (by omega) | exact F0 _ (by omega) | exact F1 _ (by omega) | exact F2 _ (by omega) | exact F3 _ (by omega) | exact F4 _ (by omega) | exact P0 _ _ (by omega) (by omega) | exact P1 _ _ (by omega) (by omega) | exact P2 _ _ (by omega) (by omega))) (k := ?_)
    refine r_icmp_ge (t := 60) hm rfl rfl (fun c9 => ?_) (fun c9 => ?_)
    · refine r_iload_n hm rfl (k := ?_)
      refine r_ireturn hm rfl rfl (by rfl) (Nat.le_of_ble_eq_true rfl) (Nat.le_of_ble_eq_true rfl) ?_
      exact ⟨rfl, by rw [← hr]; simp [sm]⟩
    · exfalso; omega
  | succ d ih =>
    intro i c z hi hc hr
    have hki := hok.2.1 i (by omega)
    unfold okIt at hki
    refine r_iload_n hm rfl (k := ?_)
    refine r_aload_n hm rfl (k := ?_)
    refine r_getI (hm := hm) (hf := rfl) (hd := rfl) (hs := (by first | assumption | exact I1 _ (by omega) | exact I2 _ (by omega) | exact I3 _ (by omega) | exact I4 _ (by omega))) (hv := (by first | assumption | exact I0 _ (by omega) | exact J0 _ (by omega) | exact J1 _ (by omega) | exact J2 _ (by omega) | exact F0 _ (by omega) | exact F1 _ (by omega) | exact F2 _ (by omega) | exact F3 _ (by omega) | exact F4 _ (by omega) | exact P0 _ _ (by omega) (by omega) | exact P1 _ _ (by omega) (by omega) | exact P2 _ _ (by omega) (by omega))) (k := ?_)
    refine r_icmp_ge (t := 60) hm rfl rfl (fun c9 => ?_) (fun c9 => ?_)
    · exfalso; omega
    · refine r_iconst hm rfl (k := ?_)
      refine r_istore hm rfl (k := ?_)
      have hb9 := sm_le (f := fun k => if x.2.2.1 0 i k = kd then (1 : Int) else 0) (B := 1) (fun k => by split <;> omega) (x.2.1 4 i).toNat 0
      refine c_countPieces_k g ht hR hok (i := i) (r := c + sm (fun k => if x.2.2.1 0 i k = kd then (1 : Int) else 0) 0 (x.2.1 4 i).toNat) (by omega) ?_ (x.2.1 4 i).toNat 0 c (by omega) (by omega) rfl
      refine r_iinc hm rfl (hr := (by omega)) (k := ?_)
      refine r_goto (t := 4) hm rfl (k := ?_)
      exact ih (i + 1) _ _ (by omega) (by omega) (by rw [← hr]; simp only [sm]; omega)
theorem c_countPieces {L : Nat} {h : Hp} {t : Nat} {x : Tx} (g : GG L h) (ht : isT t) (hR : RepC h t x) (hok : okTx x) {kd : Int} : RN 89 0 [some (.inr (.inr (some t))), some (.inl kd), none, none, none] [] h 0 0 (fun v h2 => h2 = h ∧ v = some (.inl (sm (fun i => sm (fun k => if x.2.2.1 0 i k = kd then (1 : Int) else 0) 0 (x.2.1 4 i).toNat) 0 x.1))) := by
  obtain ⟨T1, T2, T3, T4, T5, T6, T7⟩ := g.tx ht
  obtain ⟨I0, I1, I2, I3, I4, J0, J1, J2, F0, F1, F2, F3, F4, P0, P1, P2⟩ := hR.use g ht
  obtain ⟨R1, R2, -⟩ := id hR
  have hm : mrec 89 = some nM89 := rfl
  refine r_iconst hm rfl (k := ?_)
  refine r_istore_n hm rfl (k := ?_)
  refine r_iconst hm rfl (k := ?_)
  refine r_istore_n hm rfl (k := ?_)
  exact c_countPieces_l g ht hR hok x.1 0 0 none (by omega) (by omega) (by omega)
theorem c_countVain_k {L : Nat} {h : Hp} {t : Nat} {x : Tx} (g : GG L h) (ht : isT t) (hR : RepC h t x) (hok : okTx x) {i : Nat} {r : Int} {P : Option Vl → Hp → Prop} (hi : i < x.1) (hk9 : RN 90 66 [some (.inr (.inr (some t))), some (.inl r), some (.inl (i : Int)), some (.inl (x.2.1 4 i))] [] h 0 0 P) : ∀ (d k : Nat) (c : Int), ((k : Nat) : Int) + (d : Nat) = x.2.1 4 i → 0 ≤ c ∧ c ≤ 100000 - 20 + k → c + sm (fun k => if x.2.2.1 0 i k = 1 ∧ mnt x i k = -1 then (1 : Int) else 0) k d = r → RN 90 14 [some (.inr (.inr (some t))), some (.inl c), some (.inl (i : Int)), some (.inl (k : Int))] [] h 0 0 P := by
  obtain ⟨T1, T2, T3, T4, T5, T6, T7⟩ := g.tx ht
  obtain ⟨I0, I1, I2, I3, I4, J0, J1, J2, F0, F1, F2, F3, F4, P0, P1, P2⟩ := hR.use g ht
  obtain ⟨R1, R2, -⟩ := id hR
  have hm : mrec 90 = some nM90 := rfl
  have hki := hok.2.1 i hi
  unfold okIt at hki
  intro d
  induction d with
  | zero =>
    intro k c hk hc hr
    refine r_iload_n hm rfl (k := ?_)
    refine r_aload_n hm rfl (k := ?_)
    refine r_getR (hm := hm) (hf := rfl) (hd := rfl) (hs := (by first | assumption | exact I1 _ (by omega) | exact I2 _ (by omega) | exact I3 _ (by omega) | exact I4 _ (by omega))) (hv := (by first | assumption | exact I0 _ (by omega) | exact J0 _ (by omega) | exact J1 _ (by omega) | exact J2 _ (by omega) | exact F0 _ (by omega) | exact F1 _ (by omega) | exact F2 _ (by omega) | exact F3 _ (by omega) | exact F4 _ (by omega) | exact P0 _ _ (by omega) (by omega) | exact P1 _ _ (by omega) (by omega) | exact P2 _ _ (by omega) (by omega))) (k := ?_)
    refine r_iload_n hm rfl (k := ?_)
    refine r_aald (hm := hm) (hf := rfl) (hs := (by first | assumption | exact I1 _ (by omega) | exact I2 _ (by omega) | exact I3 _ (by omega) | exact I4 _ (by omega))) (hkd := by decide) (hi := rfl) (hn := (by omega)) (hv := (by first | assumption | exact I0 _ (by omega) | exact J0 _ (by omega) | exact J1 _ (by omega) | exact J2 _ (by omega) | exact F0 _ (by omega) | exact F1 _ (by omega) | exact F2 _ (by omega) | exact F3 _ (by omega) | exact F4 _ (by omega) | exact P0 _ _ (by omega) (by omega) | exact P1 _ _ (by omega) (by omega) | exact P2 _ _ (by omega) (by omega))) (k := ?_)
    refine r_getI (hm := hm) (hf := rfl) (hd := rfl) (hs := (by first | assumption | exact I1 _ (by omega) | exact I2 _ (by omega) | exact I3 _ (by omega) | exact I4 _ (by omega))) (hv := (by first | assumption | exact I0 _ (by omega) | exact J0 _ (by omega) | exact J1 _ (by omega) | exact J2 _ (by omega) | exact F0 _ (by omega) | exact F1 _ (by omega) | exact F2 _ (by omega) | exact F3 _ (by omega) | exact F4 _ (by omega) | exact P0 _ _ (by omega) (by omega) | exact P1 _ _ (by omega) (by omega) | exact P2 _ _ (by omega) (by omega))) (k := ?_)
    refine r_icmp_ge (t := 66) hm rfl rfl (fun c24 => ?_) (fun c24 => ?_)
    · have e1 : c = r := by simpa [sm] using hr
      have e2 : (k : Int) = x.2.1 4 i := by omega
      rw [e1, e2]
      exact hk9
    · exfalso; omega
  | succ d ih =>
    intro k c hk hc hr
    refine r_iload_n hm rfl (k := ?_)
    refine r_aload_n hm rfl (k := ?_)
    refine r_getR (hm := hm) (hf := rfl) (hd := rfl) (hs := (by first | assumption | exact I1 _ (by omega) | exact I2 _ (by omega) | exact I3 _ (by omega) | exact I4 _ (by omega))) (hv := (by first | assumption | exact I0 _ (by omega) | exact J0 _ (by omega) | exact J1 _ (by omega) | exact J2 _ (by omega) | exact F0 _ (by omega) | exact F1 _ (by omega) | exact F2 _ (by omega) | exact F3 _ (by omega) | exact F4 _ (by omega) | exact P0 _ _ (by omega) (by omega) | exact P1 _ _ (by omega) (by omega) | exact P2 _ _ (by omega) (by omega))) (k := ?_)
    refine r_iload_n hm rfl (k := ?_)
    refine r_aald (hm := hm) (hf := rfl) (hs := (by first | assumption | exact I1 _ (by omega) | exact I2 _ (by omega) | exact I3 _ (by omega) | exact I4 _ (by omega))) (hkd := by decide) (hi := rfl) (hn := (by omega)) (hv := (by first | assumption | exact I0 _ (by omega) | exact J0 _ (by omega) | exact J1 _ (by omega) | exact J2 _ (by omega) | exact F0 _ (by omega) | exact F1 _ (by omega) | exact F2 _ (by omega) | exact F3 _ (by omega) | exact F4 _ (by omega) | exact P0 _ _ (by omega) (by omega) | exact P1 _ _ (by omega) (by omega) | exact P2 _ _ (by omega) (by omega))) (k := ?_)
    refine r_getI (hm := hm) (hf := rfl) (hd := rfl) (hs := (by first | assumption | exact I1 _ (by omega) | exact I2 _ (by omega) | exact I3 _ (by omega) | exact I4 _ (by omega))) (hv := (by first | assumption | exact I0 _ (by omega) | exact J0 _ (by omega) | exact J1 _ (by omega) | exact J2 _ (by omega) | exact F0 _ (by omega) | exact F1 _ (by omega) | exact F2 _ (by omega) | exact F3 _ (by omega) | exact F4 _ (by omega) | exact P0 _ _ (by omega) (by omega) | exact P1 _ _ (by omega) (by omega) | exact P2 _ _ (by omega) (by omega))) (k := ?_)
    refine r_icmp_ge (t := 66) hm rfl rfl (fun c24 => ?_) (fun c24 => ?_)
    · exfalso; omega
    · refine r_aload_n hm rfl (k := ?_)
      refine r_getR (hm := hm) (hf := rfl) (hd := rfl) (hs := (by first | assumption | exact I1 _ (by omega) | exact I2 _ (by omega) | exact I3 _ (by omega) | exact I4 _ (by omega))) (hv := (by first | assumption | exact I0 _ (by omega) | exact J0 _ (by omega) | exact J1 _ (by omega) | exact J2 _ (by omega) | exact F0 _ (by omega) | exact F1 _ (by omega) | exact F2 _ (by omega) | exact F3 _ (by omega) | exact F4 _ (by omega) | exact P0 _ _ (by omega) (by omega) | exact P1 _ _ (by omega) (by omega) | exact P2 _ _ (by omega) (by omega))) (k := ?_)
      refine r_iload_n hm rfl (k := ?_)
      refine r_aald (hm := hm) (hf := rfl) (hs := (by first | assumption | exact I1 _ (by omega) | exact I2 _ (by omega) | exact I3 _ (by omega) | exact I4 _ (by omega))) (hkd := by decide) (hi := rfl) (hn := (by omega)) (hv := (by first | assumption | exact I0 _ (by omega) | exact J0 _ (by omega) | exact J1 _ (by omega) | exact J2 _ (by omega) | exact F0 _ (by omega) | exact F1 _ (by omega) | exact F2 _ (by omega) | exact F3 _ (by omega) | exact F4 _ (by omega) | exact P0 _ _ (by omega) (by omega) | exact P1 _ _ (by omega) (by omega) | exact P2 _ _ (by omega) (by omega))) (k := ?_)
      refine r_getR (hm := hm) (hf := rfl) (hd := rfl) (hs := (by first | assumption | exact I1 _ (by omega) | exact I2 _ (by omega) | exact I3 _ (by omega) | exact I4 _ (by omega))) (hv := (by first | assumption | exact I0 _ (by omega) | exact J0 _ (by omega) | exact J1 _ (by omega) | exact J2 _ (by omega) | exact F0 _ (by omega) | exact F1 _ (by omega) | exact F2 _ (by omega) | exact F3 _ (by omega) | exact F4 _ (by omega) | exact P0 _ _ (by omega) (by omega) | exact P1 _ _ (by omega) (by omega) | exact P2 _ _ (by omega) (by omega))) (k := ?_)
      refine r_iload_n hm rfl (k := ?_)
      refine r_iald (hm := hm) (hf := rfl) (hs := (by first | assumption | exact I1 _ (by omega) | exact I2 _ (by omega) | exact I3 _ (by omega) | exact I4 _ (by omega))) (hi := rfl) (hn := (by omega)) (hv := (by first | assumption | exact I0 _ (by omega) | exact J0 _ (by omega) | exact J1 _ (by omega) | exact J2 _ (by omega) | exact F0 _ (by omega) | exact F1 _ (by omega) | exact F2 _ (by omega) | exact F3 _ (by omega) | exact F4 _ (by omega) | exact P0 _ _ (by omega) (by omega) | exact P1 _ _ (by omega) (by omega) | exact P2 _ _ (by omega) (by omega))) (k := ?_)
      refine r_iconst hm rfl (k := ?_)
      refine r_icmp_ne (t := 60) hm rfl rfl (fun c39 => ?_) (fun c39 => ?_)
      · refine r_iinc hm rfl (hr := (by omega)) (k := ?_)
        refine r_goto (t := 14) hm rfl (k := ?_)
        first | exact ih (k + 1) (c + 1) (by omega) (by omega) (by rw [← hr]; simp only [sm]; first | (rw [if_pos (by first | assumption | omega | (simp_all; done))]; omega) | (simp_all; omega)) | exact ih (k + 1) c (by omega) (by omega) (by rw [← hr]; simp only [sm]; first | (rw [if_neg (by first | assumption | omega | (simp_all; done))]; omega) | (simp_all; omega))
      · refine r_aload_n hm rfl (k := ?_)
        refine r_aload_n hm rfl (k := ?_)
        refine r_getR (hm := hm) (hf := rfl) (hd := rfl) (hs := (by first | assumption | exact I1 _ (by omega) | exact I2 _ (by omega) | exact I3 _ (by omega) | exact I4 _ (by omega))) (hv := (by first | assumption | exact I0 _ (by omega) | exact J0 _ (by omega) | exact J1 _ (by omega) | exact J2 _ (by omega) | exact F0 _ (by omega) | exact F1 _ (by omega) | exact F2 _ (by omega) | exact F3 _ (by omega) | exact F4 _ (by omega) | exact P0 _ _ (by omega) (by omega) | exact P1 _ _ (by omega) (by omega) | exact P2 _ _ (by omega) (by omega))) (k := ?_)
        refine r_iload_n hm rfl (k := ?_)
        refine r_aald (hm := hm) (hf := rfl) (hs := (by first | assumption | exact I1 _ (by omega) | exact I2 _ (by omega) | exact I3 _ (by omega) | exact I4 _ (by omega))) (hkd := by decide) (hi := rfl) (hn := (by omega)) (hv := (by first | assumption | exact I0 _ (by omega) | exact J0 _ (by omega) | exact J1 _ (by omega) | exact J2 _ (by omega) | exact F0 _ (by omega) | exact F1 _ (by omega) | exact F2 _ (by omega) | exact F3 _ (by omega) | exact F4 _ (by omega) | exact P0 _ _ (by omega) (by omega) | exact P1 _ _ (by omega) (by omega) | exact P2 _ _ (by omega) (by omega))) (k := ?_)
        refine r_iload_n hm rfl (k := ?_)
        refine r_callv (j2 := 50) hm rfl rfl rfl rfl rfl rfl (by first | assumption | exact I1 _ (by omega) | exact I2 _ (by omega) | exact I3 _ (by omega) | exact I4 _ (by omega)) (Nat.le_of_ble_eq_true rfl) (Nat.le_of_ble_eq_true rfl) rfl ⟨Nat.le_of_ble_eq_true rfl, Nat.le_of_ble_eq_true rfl, Nat.le_of_ble_eq_true rfl, Nat.le_of_ble_eq_true rfl, Nat.le_of_ble_eq_true rfl⟩ rfl (c_meantBy g ht hR hi (by omega) (by omega)) (fun v9 h9 p9 => ?_)
        obtain ⟨e1, e2⟩ := p9
        subst e2
        subst e1
        change RN 90 53 _ _ _ 0 0 _
        dsimp only [Option.toList, List.cons_append, List.nil_append]
        refine r_iconst hm rfl (k := ?_)
        refine r_icmp_ne (t := 60) hm rfl rfl (fun c54 => ?_) (fun c54 => ?_)
        · refine r_iinc hm rfl (hr := (by omega)) (k := ?_)
          refine r_goto (t := 14) hm rfl (k := ?_)
          first | exact ih (k + 1) (c + 1) (by omega) (by omega) (by rw [← hr]; simp only [sm]; first | (rw [if_pos (by first | assumption | omega | (simp_all; done))]; omega) | (simp_all; omega)) | exact ih (k + 1) c (by omega) (by omega) (by rw [← hr]; simp only [sm]; first | (rw [if_neg (by first | assumption | omega | (simp_all; done))]; omega) | (simp_all; omega))
        · refine r_iinc hm rfl (hr := (by omega)) (k := ?_)
          refine r_iinc hm rfl (hr := (by omega)) (k := ?_)
          refine r_goto (t := 14) hm rfl (k := ?_)
          first | exact ih (k + 1) (c + 1) (by omega) (by omega) (by rw [← hr]; simp only [sm]; first | (rw [if_pos (by first | assumption | omega | (simp_all; done))]; omega) | (simp_all; omega)) | exact ih (k + 1) c (by omega) (by omega) (by rw [← hr]; simp only [sm]; first | (rw [if_neg (by first | assumption | omega | (simp_all; done))]; omega) | (simp_all; omega))
theorem c_countVain_l {L : Nat} {h : Hp} {t : Nat} {x : Tx} (g : GG L h) (ht : isT t) (hR : RepC h t x) (hok : okTx x) {r : Int} : ∀ (d i : Nat) (c : Int) (z : Option Vl), i + d = x.1 → 0 ≤ c ∧ c ≤ 20 * (i : Int) → c + sm (fun i => sm (fun k => if x.2.2.1 0 i k = 1 ∧ mnt x i k = -1 then (1 : Int) else 0) 0 (x.2.1 4 i).toNat) i d = r → RN 90 4 [some (.inr (.inr (some t))), some (.inl c), some (.inl (i : Int)), z] [] h 0 0 (fun v h2 => h2 = h ∧ v = some (.inl r)) := by
  obtain ⟨T1, T2, T3, T4, T5, T6, T7⟩ := g.tx ht
  obtain ⟨I0, I1, I2, I3, I4, J0, J1, J2, F0, F1, F2, F3, F4, P0, P1, P2⟩ := hR.use g ht
  obtain ⟨R1, R2, -⟩ := id hR
  have hm : mrec 90 = some nM90 := rfl
  intro d
  induction d with
  | zero =>
    intro i c z hi hc hr
    refine r_iload_n hm rfl (k := ?_)
    refine r_aload_n hm rfl (k := ?_)
    refine r_getI (hm := hm) (hf := rfl) (hd := rfl) (hs := (by first | assumption | exact I1 _ (by omega) | exact I2 _ (by omega) | exact I3 _ (by omega) | exact I4 _ (by omega))) (hv := (by first | assumption | exact I0 _ (by omega) | exact J0 _ (by omega) | exact J1 _ (by omega) | exact J2 _ (by omega) | exact F0 _ (by omega) | exact F1 _ (by omega) | exact F2 _ (by omega) | exact F3 _ (by omega) | exact F4 _ (by omega) | exact P0 _ _ (by omega) (by omega) | exact P1 _ _ (by omega) (by omega) | exact P2 _ _ (by omega) (by omega))) (k := ?_)
    refine r_icmp_ge (t := 72) hm rfl rfl (fun c9 => ?_) (fun c9 => ?_)
    · refine r_iload_n hm rfl (k := ?_)
      refine r_ireturn hm rfl rfl (by rfl) (Nat.le_of_ble_eq_true rfl) (Nat.le_of_ble_eq_true rfl) ?_
      exact ⟨rfl, by rw [← hr]; simp [sm]⟩
    · exfalso; omega
  | succ d ih =>
    intro i c z hi hc hr
    have hki := hok.2.1 i (by omega)
    unfold okIt at hki
    refine r_iload_n hm rfl (k := ?_)
    refine r_aload_n hm rfl (k := ?_)
    refine r_getI (hm := hm) (hf := rfl) (hd := rfl) (hs := (by first | assumption | exact I1 _ (by omega) | exact I2 _ (by omega) | exact I3 _ (by omega) | exact I4 _ (by omega))) (hv := (by first | assumption | exact I0 _ (by omega) | exact J0 _ (by omega) | exact J1 _ (by omega) | exact J2 _ (by omega) | exact F0 _ (by omega) | exact F1 _ (by omega) | exact F2 _ (by omega) | exact F3 _ (by omega) | exact F4 _ (by omega) | exact P0 _ _ (by omega) (by omega) | exact P1 _ _ (by omega) (by omega) | exact P2 _ _ (by omega) (by omega))) (k := ?_)
    refine r_icmp_ge (t := 72) hm rfl rfl (fun c9 => ?_) (fun c9 => ?_)
    · exfalso; omega
    · refine r_iconst hm rfl (k := ?_)
      refine r_istore_n hm rfl (k := ?_)
      have hb9 := sm_le (f := fun k => if x.2.2.1 0 i k = 1 ∧ mnt x i k = -1 then (1 : Int) else 0) (B := 1) (fun k => by split <;> omega) (x.2.1 4 i).toNat 0
      refine c_countVain_k g ht hR hok (i := i) (r := c + sm (fun k => if x.2.2.1 0 i k = 1 ∧ mnt x i k = -1 then (1 : Int) else 0) 0 (x.2.1 4 i).toNat) (by omega) ?_ (x.2.1 4 i).toNat 0 c (by omega) (by omega) rfl
      refine r_iinc hm rfl (hr := (by omega)) (k := ?_)
      refine r_goto (t := 4) hm rfl (k := ?_)
      exact ih (i + 1) _ _ (by omega) (by omega) (by rw [← hr]; simp only [sm]; omega)
theorem c_countVain {L : Nat} {h : Hp} {t : Nat} {x : Tx} (g : GG L h) (ht : isT t) (hR : RepC h t x) (hok : okTx x) : RN 90 0 [some (.inr (.inr (some t))), none, none, none] [] h 0 0 (fun v h2 => h2 = h ∧ v = some (.inl (sm (fun i => sm (fun k => if x.2.2.1 0 i k = 1 ∧ mnt x i k = -1 then (1 : Int) else 0) 0 (x.2.1 4 i).toNat) 0 x.1))) := by
  obtain ⟨T1, T2, T3, T4, T5, T6, T7⟩ := g.tx ht
  obtain ⟨I0, I1, I2, I3, I4, J0, J1, J2, F0, F1, F2, F3, F4, P0, P1, P2⟩ := hR.use g ht
  obtain ⟨R1, R2, -⟩ := id hR
  have hm : mrec 90 = some nM90 := rfl
  refine r_iconst hm rfl (k := ?_)
  refine r_istore_n hm rfl (k := ?_)
  refine r_iconst hm rfl (k := ?_)
  refine r_istore_n hm rfl (k := ?_)
  exact c_countVain_l g ht hR hok x.1 0 0 none (by omega) (by omega) (by omega)
/-- the mark by which item i is meant; -1: by none -/
def mtm (x : Tx) (i : Nat) : Int := if x.2.1 3 i ≠ -1 ∧ fi (fun q => x.2.1 3 q == x.2.1 3 i) 0 x.1 = (i : Int) then x.2.1 3 i else -1
def an (p : Nat → Bool) : Nat → Nat → Bool
  | _, 0 => false
  | k, d + 1 => p k || an p (k + 1) d
theorem c_mtm {L : Nat} {h : Hp} {t : Nat} {x : Tx} (g : GG L h) (ht : isT t) (hR : RepC h t x) {i : Nat} (hi : i < x.1) : RN 94 0 [some (.inr (.inr (some t))), some (.inl (i : Int)), none] [] h 0 0 (fun v h2 => h2 = h ∧ v = some (.inl (mtm x i))) := by
  obtain ⟨T1, T2, T3, T4, T5, T6, T7⟩ := g.tx ht
  obtain ⟨I0, I1, I2, I3, I4, J0, J1, J2, F0, F1, F2, F3, F4, P0, P1, P2⟩ := hR.use g ht
  obtain ⟨R1, R2, -⟩ := id hR
  have hm : mrec 94 = some nM94 := rfl
  refine r_aload_n hm rfl (k := ?_)
  refine r_getR (hm := hm) (hf := rfl) (hd := rfl) (hs := (by first | assumption | exact I1 _ (by omega) | exact I2 _ (by omega) | exact I3 _ (by omega) | exact I4 _ (by omega))) (hv := (by first | assumption | exact I0 _ (by omega) | exact J0 _ (by omega) | exact J1 _ (by omega) | exact J2 _ (by omega) | exact F0 _ (by omega) | exact F1 _ (by omega) | exact F2 _ (by omega) | exact F3 _ (by omega) | exact F4 _ (by omega) | exact P0 _ _ (by omega) (by omega) | exact P1 _ _ (by omega) (by omega) | exact P2 _ _ (by omega) (by omega))) (k := ?_)
  refine r_iload_n hm rfl (k := ?_)
  refine r_aald (hm := hm) (hf := rfl) (hs := (by first | assumption | exact I1 _ (by omega) | exact I2 _ (by omega) | exact I3 _ (by omega) | exact I4 _ (by omega))) (hkd := by decide) (hi := rfl) (hn := (by omega)) (hv := (by first | assumption | exact I0 _ (by omega) | exact J0 _ (by omega) | exact J1 _ (by omega) | exact J2 _ (by omega) | exact F0 _ (by omega) | exact F1 _ (by omega) | exact F2 _ (by omega) | exact F3 _ (by omega) | exact F4 _ (by omega) | exact P0 _ _ (by omega) (by omega) | exact P1 _ _ (by omega) (by omega) | exact P2 _ _ (by omega) (by omega))) (k := ?_)
  refine r_getI (hm := hm) (hf := rfl) (hd := rfl) (hs := (by first | assumption | exact I1 _ (by omega) | exact I2 _ (by omega) | exact I3 _ (by omega) | exact I4 _ (by omega))) (hv := (by first | assumption | exact I0 _ (by omega) | exact J0 _ (by omega) | exact J1 _ (by omega) | exact J2 _ (by omega) | exact F0 _ (by omega) | exact F1 _ (by omega) | exact F2 _ (by omega) | exact F3 _ (by omega) | exact F4 _ (by omega) | exact P0 _ _ (by omega) (by omega) | exact P1 _ _ (by omega) (by omega) | exact P2 _ _ (by omega) (by omega))) (k := ?_)
  refine r_istore_n hm rfl (k := ?_)
  refine r_iload_n hm rfl (k := ?_)
  refine r_iconst hm rfl (k := ?_)
  refine r_icmp_eq (t := 28) hm rfl rfl (fun c12 => ?_) (fun c12 => ?_)
  · refine r_iconst hm rfl (k := ?_)
    refine r_ireturn hm rfl rfl (by rfl) (Nat.le_of_ble_eq_true rfl) (Nat.le_of_ble_eq_true rfl) ?_
    exact ⟨rfl, by unfold mtm; first | (rw [if_pos (by omega)]; done) | (rw [if_neg (by omega)]; done)⟩
  · refine r_aload_n hm rfl (k := ?_)
    refine r_iload_n hm rfl (k := ?_)
    refine r_callv (j2 := 51) hm rfl rfl rfl rfl rfl rfl (by first | assumption | exact I1 _ (by omega) | exact I2 _ (by omega) | exact I3 _ (by omega) | exact I4 _ (by omega)) (Nat.le_of_ble_eq_true rfl) (Nat.le_of_ble_eq_true rfl) rfl ⟨Nat.le_of_ble_eq_true rfl, Nat.le_of_ble_eq_true rfl, Nat.le_of_ble_eq_true rfl, Nat.le_of_ble_eq_true rfl, Nat.le_of_ble_eq_true rfl⟩ rfl (c_meaning g ht hR) (fun v9 h9 p9 => ?_)
    obtain ⟨e1, e2⟩ := p9
    subst e2
    subst e1
    change RN 94 20 _ _ _ 0 0 _
    dsimp only [Option.toList, List.cons_append, List.nil_append]
    refine r_iload_n hm rfl (k := ?_)
    refine r_icmp_ne (t := 28) hm rfl rfl (fun c21 => ?_) (fun c21 => ?_)
    · refine r_iconst hm rfl (k := ?_)
      refine r_ireturn hm rfl rfl (by rfl) (Nat.le_of_ble_eq_true rfl) (Nat.le_of_ble_eq_true rfl) ?_
      exact ⟨rfl, by unfold mtm; first | (rw [if_pos (by omega)]; done) | (rw [if_neg (by omega)]; done)⟩
    · refine r_iload_n hm rfl (k := ?_)
      refine r_goto (t := 29) hm rfl (k := ?_)
      refine r_ireturn hm rfl rfl (by rfl) (Nat.le_of_ble_eq_true rfl) (Nat.le_of_ble_eq_true rfl) ?_
      exact ⟨rfl, by unfold mtm; first | (rw [if_pos (by omega)]; done) | (rw [if_neg (by omega)]; done)⟩
theorem c_countCallsOf_k {L : Nat} {h : Hp} {t : Nat} {x : Tx} (g : GG L h) (ht : isT t) (hR : RepC h t x) (hok : okTx x) {pl mk : Int} {i : Nat} {r : Int} {P : Option Vl → Hp → Prop} (hi : i < x.1) (hk9 : RN 107 63 [some (.inr (.inr (some t))), some (.inl pl), some (.inl mk), some (.inl r), some (.inl (i : Int)), some (.inl (x.2.1 4 i))] [] h 0 0 P) : ∀ (d k : Nat) (c : Int), ((k : Nat) : Int) + (d : Nat) = x.2.1 4 i → 0 ≤ c ∧ c ≤ 100000 - 20 + k → c + sm (fun k => if x.2.2.1 0 i k = 1 ∧ x.2.2.1 1 i k = mk then (1 : Int) else 0) k d = r → RN 107 23 [some (.inr (.inr (some t))), some (.inl pl), some (.inl mk), some (.inl c), some (.inl (i : Int)), some (.inl (k : Int))] [] h 0 0 P := by
  obtain ⟨T1, T2, T3, T4, T5, T6, T7⟩ := g.tx ht
  obtain ⟨I0, I1, I2, I3, I4, J0, J1, J2, F0, F1, F2, F3, F4, P0, P1, P2⟩ := hR.use g ht
  obtain ⟨R1, R2, -⟩ := id hR
  have hm : mrec 107 = some nM107 := rfl
  have hki := hok.2.1 i hi
  unfold okIt at hki
  intro d
  induction d with
  | zero =>
    intro k c hk hc hr
    refine r_iload hm rfl (k := ?_)
    refine r_aload_n hm rfl (k := ?_)
    refine r_getR (hm := hm) (hf := rfl) (hd := rfl) (hs := (by first | assumption | exact I1 _ (by omega) | exact I2 _ (by omega) | exact I3 _ (by omega) | exact I4 _ (by omega))) (hv := (by first | assumption | exact I0 _ (by omega) | exact J0 _ (by omega) | exact J1 _ (by omega) | exact J2 _ (by omega) | exact F0 _ (by omega) | exact F1 _ (by omega) | exact F2 _ (by omega) | exact F3 _ (by omega) | exact F4 _ (by omega) | exact P0 _ _ (by omega) (by omega) | exact P1 _ _ (by omega) (by omega) | exact P2 _ _ (by omega) (by omega))) (k := ?_)
    refine r_iload hm rfl (k := ?_)
    refine r_aald (hm := hm) (hf := rfl) (hs := (by first | assumption | exact I1 _ (by omega) | exact I2 _ (by omega) | exact I3 _ (by omega) | exact I4 _ (by omega))) (hkd := by decide) (hi := rfl) (hn := (by omega)) (hv := (by first | assumption | exact I0 _ (by omega) | exact J0 _ (by omega) | exact J1 _ (by omega) | exact J2 _ (by omega) | exact F0 _ (by omega) | exact F1 _ (by omega) | exact F2 _ (by omega) | exact F3 _ (by omega) | exact F4 _ (by omega) | exact P0 _ _ (by omega) (by omega) | exact P1 _ _ (by omega) (by omega) | exact P2 _ _ (by omega) (by omega))) (k := ?_)
    refine r_getI (hm := hm) (hf := rfl) (hd := rfl) (hs := (by first | assumption | exact I1 _ (by omega) | exact I2 _ (by omega) | exact I3 _ (by omega) | exact I4 _ (by omega))) (hv := (by first | assumption | exact I0 _ (by omega) | exact J0 _ (by omega) | exact J1 _ (by omega) | exact J2 _ (by omega) | exact F0 _ (by omega) | exact F1 _ (by omega) | exact F2 _ (by omega) | exact F3 _ (by omega) | exact F4 _ (by omega) | exact P0 _ _ (by omega) (by omega) | exact P1 _ _ (by omega) (by omega) | exact P2 _ _ (by omega) (by omega))) (k := ?_)
    refine r_icmp_ge (t := 63) hm rfl rfl (fun c35 => ?_) (fun c35 => ?_)
    · have e1 : c = r := by simpa [sm] using hr
      have e2 : (k : Int) = x.2.1 4 i := by omega
      rw [e1, e2]
      exact hk9
    · exfalso; omega
  | succ d ih =>
    intro k c hk hc hr
    refine r_iload hm rfl (k := ?_)
    refine r_aload_n hm rfl (k := ?_)
    refine r_getR (hm := hm) (hf := rfl) (hd := rfl) (hs := (by first | assumption | exact I1 _ (by omega) | exact I2 _ (by omega) | exact I3 _ (by omega) | exact I4 _ (by omega))) (hv := (by first | assumption | exact I0 _ (by omega) | exact J0 _ (by omega) | exact J1 _ (by omega) | exact J2 _ (by omega) | exact F0 _ (by omega) | exact F1 _ (by omega) | exact F2 _ (by omega) | exact F3 _ (by omega) | exact F4 _ (by omega) | exact P0 _ _ (by omega) (by omega) | exact P1 _ _ (by omega) (by omega) | exact P2 _ _ (by omega) (by omega))) (k := ?_)
    refine r_iload hm rfl (k := ?_)
    refine r_aald (hm := hm) (hf := rfl) (hs := (by first | assumption | exact I1 _ (by omega) | exact I2 _ (by omega) | exact I3 _ (by omega) | exact I4 _ (by omega))) (hkd := by decide) (hi := rfl) (hn := (by omega)) (hv := (by first | assumption | exact I0 _ (by omega) | exact J0 _ (by omega) | exact J1 _ (by omega) | exact J2 _ (by omega) | exact F0 _ (by omega) | exact F1 _ (by omega) | exact F2 _ (by omega) | exact F3 _ (by omega) | exact F4 _ (by omega) | exact P0 _ _ (by omega) (by omega) | exact P1 _ _ (by omega) (by omega) | exact P2 _ _ (by omega) (by omega))) (k := ?_)
    refine r_getI (hm := hm) (hf := rfl) (hd := rfl) (hs := (by first | assumption | exact I1 _ (by omega) | exact I2 _ (by omega) | exact I3 _ (by omega) | exact I4 _ (by omega))) (hv := (by first | assumption | exact I0 _ (by omega) | exact J0 _ (by omega) | exact J1 _ (by omega) | exact J2 _ (by omega) | exact F0 _ (by omega) | exact F1 _ (by omega) | exact F2 _ (by omega) | exact F3 _ (by omega) | exact F4 _ (by omega) | exact P0 _ _ (by omega) (by omega) | exact P1 _ _ (by omega) (by omega) | exact P2 _ _ (by omega) (by omega))) (k := ?_)
    refine r_icmp_ge (t := 63) hm rfl rfl (fun c35 => ?_) (fun c35 => ?_)
    · exfalso; omega
    · refine r_aload_n hm rfl (k := ?_)
      refine r_getR (hm := hm) (hf := rfl) (hd := rfl) (hs := (by first | assumption | exact I1 _ (by omega) | exact I2 _ (by omega) | exact I3 _ (by omega) | exact I4 _ (by omega))) (hv := (by first | assumption | exact I0 _ (by omega) | exact J0 _ (by omega) | exact J1 _ (by omega) | exact J2 _ (by omega) | exact F0 _ (by omega) | exact F1 _ (by omega) | exact F2 _ (by omega) | exact F3 _ (by omega) | exact F4 _ (by omega) | exact P0 _ _ (by omega) (by omega) | exact P1 _ _ (by omega) (by omega) | exact P2 _ _ (by omega) (by omega))) (k := ?_)
      refine r_iload hm rfl (k := ?_)
      refine r_aald (hm := hm) (hf := rfl) (hs := (by first | assumption | exact I1 _ (by omega) | exact I2 _ (by omega) | exact I3 _ (by omega) | exact I4 _ (by omega))) (hkd := by decide) (hi := rfl) (hn := (by omega)) (hv := (by first | assumption | exact I0 _ (by omega) | exact J0 _ (by omega) | exact J1 _ (by omega) | exact J2 _ (by omega) | exact F0 _ (by omega) | exact F1 _ (by omega) | exact F2 _ (by omega) | exact F3 _ (by omega) | exact F4 _ (by omega) | exact P0 _ _ (by omega) (by omega) | exact P1 _ _ (by omega) (by omega) | exact P2 _ _ (by omega) (by omega))) (k := ?_)
      refine r_iload hm rfl (k := ?_)
      refine r_iload_n hm rfl (k := ?_)
      refine r_callv (j2 := 95) hm rfl rfl rfl rfl rfl rfl (by first | assumption | exact I1 _ (by omega) | exact I2 _ (by omega) | exact I3 _ (by omega) | exact I4 _ (by omega)) (Nat.le_of_ble_eq_true rfl) (Nat.le_of_ble_eq_true rfl) rfl ⟨Nat.le_of_ble_eq_true rfl, Nat.le_of_ble_eq_true rfl, Nat.le_of_ble_eq_true rfl, Nat.le_of_ble_eq_true rfl, Nat.le_of_ble_eq_true rfl⟩ rfl (c_callsMark g ht hR hi (by omega) (by omega)) (fun v9 h9 p9 => ?_)
      obtain ⟨e1, e2⟩ := p9
      subst e2
      subst e1
      change RN 107 51 _ _ _ 0 0 _
      dsimp only [Option.toList, List.cons_append, List.nil_append]
      refine r_if_eq (t := 57) hm rfl rfl (fun c51 => ?_) (fun c51 => ?_)
      · refine r_iinc hm rfl (hr := (by omega)) (k := ?_)
        refine r_goto (t := 23) hm rfl (k := ?_)
        first | exact ih (k + 1) (c + 1) (by omega) (by omega) (by rw [← hr]; simp only [sm]; first | (rw [if_pos (by first | assumption | omega | (simp_all; done))]; omega) | (simp_all; omega)) | exact ih (k + 1) c (by omega) (by omega) (by rw [← hr]; simp only [sm]; first | (rw [if_neg (by first | assumption | omega | (simp_all; done))]; omega) | (simp_all; omega))
      · refine r_iinc hm rfl (hr := (by omega)) (k := ?_)
        refine r_iinc hm rfl (hr := (by omega)) (k := ?_)
        refine r_goto (t := 23) hm rfl (k := ?_)
        first | exact ih (k + 1) (c + 1) (by omega) (by omega) (by rw [← hr]; simp only [sm]; first | (rw [if_pos (by first | assumption | omega | (simp_all; done))]; omega) | (simp_all; omega)) | exact ih (k + 1) c (by omega) (by omega) (by rw [← hr]; simp only [sm]; first | (rw [if_neg (by first | assumption | omega | (simp_all; done))]; omega) | (simp_all; omega))
theorem c_countCallsOf_l {L : Nat} {h : Hp} {t : Nat} {x : Tx} (g : GG L h) (ht : isT t) (hR : RepC h t x) (hok : okTx x) {pl mk : Int} {r : Int} : ∀ (d i : Nat) (c : Int) (z : Option Vl), i + d = x.1 → 0 ≤ c ∧ c ≤ 20 * (i : Int) → c + sm (fun i => sm (fun k => if x.2.2.1 0 i k = 1 ∧ x.2.2.1 1 i k = mk then (1 : Int) else 0) 0 (x.2.1 4 i).toNat) i d = r → RN 107 11 [some (.inr (.inr (some t))), some (.inl pl), some (.inl mk), some (.inl c), some (.inl (i : Int)), z] [] h 0 0 (fun v h2 => h2 = h ∧ v = some (.inl r)) := by
  obtain ⟨T1, T2, T3, T4, T5, T6, T7⟩ := g.tx ht
  obtain ⟨I0, I1, I2, I3, I4, J0, J1, J2, F0, F1, F2, F3, F4, P0, P1, P2⟩ := hR.use g ht
  obtain ⟨R1, R2, -⟩ := id hR
  have hm : mrec 107 = some nM107 := rfl
  intro d
  induction d with
  | zero =>
    intro i c z hi hc hr
    refine r_iload hm rfl (k := ?_)
    refine r_aload_n hm rfl (k := ?_)
    refine r_getI (hm := hm) (hf := rfl) (hd := rfl) (hs := (by first | assumption | exact I1 _ (by omega) | exact I2 _ (by omega) | exact I3 _ (by omega) | exact I4 _ (by omega))) (hv := (by first | assumption | exact I0 _ (by omega) | exact J0 _ (by omega) | exact J1 _ (by omega) | exact J2 _ (by omega) | exact F0 _ (by omega) | exact F1 _ (by omega) | exact F2 _ (by omega) | exact F3 _ (by omega) | exact F4 _ (by omega) | exact P0 _ _ (by omega) (by omega) | exact P1 _ _ (by omega) (by omega) | exact P2 _ _ (by omega) (by omega))) (k := ?_)
    refine r_icmp_ge (t := 69) hm rfl rfl (fun c17 => ?_) (fun c17 => ?_)
    · refine r_iload_n hm rfl (k := ?_)
      refine r_ireturn hm rfl rfl (by rfl) (Nat.le_of_ble_eq_true rfl) (Nat.le_of_ble_eq_true rfl) ?_
      exact ⟨rfl, by rw [← hr]; simp [sm]⟩
    · exfalso; omega
  | succ d ih =>
    intro i c z hi hc hr
    have hki := hok.2.1 i (by omega)
    unfold okIt at hki
    refine r_iload hm rfl (k := ?_)
    refine r_aload_n hm rfl (k := ?_)
    refine r_getI (hm := hm) (hf := rfl) (hd := rfl) (hs := (by first | assumption | exact I1 _ (by omega) | exact I2 _ (by omega) | exact I3 _ (by omega) | exact I4 _ (by omega))) (hv := (by first | assumption | exact I0 _ (by omega) | exact J0 _ (by omega) | exact J1 _ (by omega) | exact J2 _ (by omega) | exact F0 _ (by omega) | exact F1 _ (by omega) | exact F2 _ (by omega) | exact F3 _ (by omega) | exact F4 _ (by omega) | exact P0 _ _ (by omega) (by omega) | exact P1 _ _ (by omega) (by omega) | exact P2 _ _ (by omega) (by omega))) (k := ?_)
    refine r_icmp_ge (t := 69) hm rfl rfl (fun c17 => ?_) (fun c17 => ?_)
    · exfalso; omega
    · refine r_iconst hm rfl (k := ?_)
      refine r_istore hm rfl (k := ?_)
      have hb9 := sm_le (f := fun k => if x.2.2.1 0 i k = 1 ∧ x.2.2.1 1 i k = mk then (1 : Int) else 0) (B := 1) (fun k => by split <;> omega) (x.2.1 4 i).toNat 0
      refine c_countCallsOf_k g ht hR hok (i := i) (r := c + sm (fun k => if x.2.2.1 0 i k = 1 ∧ x.2.2.1 1 i k = mk then (1 : Int) else 0) 0 (x.2.1 4 i).toNat) (by omega) ?_ (x.2.1 4 i).toNat 0 c (by omega) (by omega) rfl
      refine r_iinc hm rfl (hr := (by omega)) (k := ?_)
      refine r_goto (t := 11) hm rfl (k := ?_)
      exact ih (i + 1) _ _ (by omega) (by omega) (by rw [← hr]; simp only [sm]; omega)
theorem c_countCallsOf {L : Nat} {h : Hp} {t : Nat} {x : Tx} (g : GG L h) (ht : isT t) (hR : RepC h t x) (hok : okTx x) {i : Nat} (hi : i < x.1) : RN 107 0 [some (.inr (.inr (some t))), some (.inl (i : Int)), none, none, none, none] [] h 0 0 (fun v h2 => h2 = h ∧ v = some (.inl (sm (fun q => sm (fun k => if x.2.2.1 0 q k = 1 ∧ x.2.2.1 1 q k = mtm x i then (1 : Int) else 0) 0 (x.2.1 4 q).toNat) 0 x.1))) := by
  obtain ⟨T1, T2, T3, T4, T5, T6, T7⟩ := g.tx ht
  obtain ⟨I0, I1, I2, I3, I4, J0, J1, J2, F0, F1, F2, F3, F4, P0, P1, P2⟩ := hR.use g ht
  obtain ⟨R1, R2, -⟩ := id hR
  have hm : mrec 107 = some nM107 := rfl
  refine r_aload_n hm rfl (k := ?_)
  refine r_iload_n hm rfl (k := ?_)
  refine r_callv (j2 := 94) hm rfl rfl rfl rfl rfl rfl (by first | assumption | exact I1 _ (by omega) | exact I2 _ (by omega) | exact I3 _ (by omega) | exact I4 _ (by omega)) (Nat.le_of_ble_eq_true rfl) (Nat.le_of_ble_eq_true rfl) rfl ⟨Nat.le_of_ble_eq_true rfl, Nat.le_of_ble_eq_true rfl, Nat.le_of_ble_eq_true rfl, Nat.le_of_ble_eq_true rfl, Nat.le_of_ble_eq_true rfl⟩ rfl (c_mtm g ht hR hi) (fun v9 h9 p9 => ?_)
  obtain ⟨e1, e2⟩ := p9
  subst e2
  subst e1
  change RN 107 5 _ _ _ 0 0 _
  dsimp only [Option.toList, List.cons_append, List.nil_append]
  refine r_istore_n hm rfl (k := ?_)
  refine r_iconst hm rfl (k := ?_)
  refine r_istore_n hm rfl (k := ?_)
  refine r_iconst hm rfl (k := ?_)
  refine r_istore hm rfl (k := ?_)
  exact c_countCallsOf_l g ht hR hok x.1 0 0 none (by omega) (by omega) (by omega)
theorem c_twice_k {L : Nat} {h : Hp} {t : Nat} {x : Tx} (g : GG L h) (ht : isT t) (hR : RepC h t x) {tw m r : Int} {P : Option Vl → Hp → Prop} (hk9 : RN 91 47 [some (.inr (.inr (some t))), some (.inl tw), some (.inl m), some (.inl r), some (.inl (x.1 : Int))] [] h 0 0 P) : ∀ (d i : Nat) (c : Int), i + d = x.1 → 0 ≤ c ∧ c ≤ i → c + sm (fun i => if x.2.1 3 i = m then (1 : Int) else 0) i d = r → RN 91 15 [some (.inr (.inr (some t))), some (.inl tw), some (.inl m), some (.inl c), some (.inl (i : Int))] [] h 0 0 P := by
  obtain ⟨T1, T2, T3, T4, T5, T6, T7⟩ := g.tx ht
  obtain ⟨I0, I1, I2, I3, I4, J0, J1, J2, F0, F1, F2, F3, F4, P0, P1, P2⟩ := hR.use g ht
  obtain ⟨R1, R2, -⟩ := id hR
  have hm : mrec 91 = some nM91 := rfl
  intro d
  induction d with
  | zero =>
    intro i c hi hc hr
    refine r_iload hm rfl (k := ?_)
    refine r_aload_n hm rfl (k := ?_)
    refine r_getI (hm := hm) (hf := rfl) (hd := rfl) (hs := (by first | assumption | exact I1 _ (by omega) | exact I2 _ (by omega) | exact I3 _ (by omega) | exact I4 _ (by omega))) (hv := (by first | assumption | exact I0 _ (by omega) | exact J0 _ (by omega) | exact J1 _ (by omega) | exact J2 _ (by omega) | exact F0 _ (by omega) | exact F1 _ (by omega) | exact F2 _ (by omega) | exact F3 _ (by omega) | exact F4 _ (by omega) | exact P0 _ _ (by omega) (by omega) | exact P1 _ _ (by omega) (by omega) | exact P2 _ _ (by omega) (by omega))) (k := ?_)
    refine r_icmp_ge (t := 47) hm rfl rfl (fun c21 => ?_) (fun c21 => ?_)
    · have e1 : c = r := by simpa [sm] using hr
      have e2 : i = x.1 := by omega
      rw [e1, e2]
      exact hk9
    · exfalso; omega
  | succ d ih =>
    intro i c hi hc hr
    refine r_iload hm rfl (k := ?_)
    refine r_aload_n hm rfl (k := ?_)
    refine r_getI (hm := hm) (hf := rfl) (hd := rfl) (hs := (by first | assumption | exact I1 _ (by omega) | exact I2 _ (by omega) | exact I3 _ (by omega) | exact I4 _ (by omega))) (hv := (by first | assumption | exact I0 _ (by omega) | exact J0 _ (by omega) | exact J1 _ (by omega) | exact J2 _ (by omega) | exact F0 _ (by omega) | exact F1 _ (by omega) | exact F2 _ (by omega) | exact F3 _ (by omega) | exact F4 _ (by omega) | exact P0 _ _ (by omega) (by omega) | exact P1 _ _ (by omega) (by omega) | exact P2 _ _ (by omega) (by omega))) (k := ?_)
    refine r_icmp_ge (t := 47) hm rfl rfl (fun c21 => ?_) (fun c21 => ?_)
    · exfalso; omega
    · refine r_aload_n hm rfl (k := ?_)
      refine r_getR (hm := hm) (hf := rfl) (hd := rfl) (hs := (by first | assumption | exact I1 _ (by omega) | exact I2 _ (by omega) | exact I3 _ (by omega) | exact I4 _ (by omega))) (hv := (by first | assumption | exact I0 _ (by omega) | exact J0 _ (by omega) | exact J1 _ (by omega) | exact J2 _ (by omega) | exact F0 _ (by omega) | exact F1 _ (by omega) | exact F2 _ (by omega) | exact F3 _ (by omega) | exact F4 _ (by omega) | exact P0 _ _ (by omega) (by omega) | exact P1 _ _ (by omega) (by omega) | exact P2 _ _ (by omega) (by omega))) (k := ?_)
      refine r_iload hm rfl (k := ?_)
      refine r_aald (hm := hm) (hf := rfl) (hs := (by first | assumption | exact I1 _ (by omega) | exact I2 _ (by omega) | exact I3 _ (by omega) | exact I4 _ (by omega))) (hkd := by decide) (hi := rfl) (hn := (by omega)) (hv := (by first | assumption | exact I0 _ (by omega) | exact J0 _ (by omega) | exact J1 _ (by omega) | exact J2 _ (by omega) | exact F0 _ (by omega) | exact F1 _ (by omega) | exact F2 _ (by omega) | exact F3 _ (by omega) | exact F4 _ (by omega) | exact P0 _ _ (by omega) (by omega) | exact P1 _ _ (by omega) (by omega) | exact P2 _ _ (by omega) (by omega))) (k := ?_)
      refine r_getI (hm := hm) (hf := rfl) (hd := rfl) (hs := (by first | assumption | exact I1 _ (by omega) | exact I2 _ (by omega) | exact I3 _ (by omega) | exact I4 _ (by omega))) (hv := (by first | assumption | exact I0 _ (by omega) | exact J0 _ (by omega) | exact J1 _ (by omega) | exact J2 _ (by omega) | exact F0 _ (by omega) | exact F1 _ (by omega) | exact F2 _ (by omega) | exact F3 _ (by omega) | exact F4 _ (by omega) | exact P0 _ _ (by omega) (by omega) | exact P1 _ _ (by omega) (by omega) | exact P2 _ _ (by omega) (by omega))) (k := ?_)
      refine r_iload_n hm rfl (k := ?_)
      refine r_icmp_ne (t := 41) hm rfl rfl (fun c35 => ?_) (fun c35 => ?_)
      · refine r_iinc hm rfl (hr := (by omega)) (k := ?_)
        refine r_goto (t := 15) hm rfl (k := ?_)
        first | exact ih (i + 1) (c + 1) (by omega) (by omega) (by rw [← hr]; simp only [sm]; rw [if_pos (by omega)]; omega) | exact ih (i + 1) c (by omega) (by omega) (by rw [← hr]; simp only [sm]; rw [if_neg (by omega)]; omega)
      · refine r_iinc hm rfl (hr := (by omega)) (k := ?_)
        refine r_iinc hm rfl (hr := (by omega)) (k := ?_)
        refine r_goto (t := 15) hm rfl (k := ?_)
        first | exact ih (i + 1) (c + 1) (by omega) (by omega) (by rw [← hr]; simp only [sm]; rw [if_pos (by omega)]; omega) | exact ih (i + 1) c (by omega) (by omega) (by rw [← hr]; simp only [sm]; rw [if_neg (by omega)]; omega)
theorem c_twice_l {L : Nat} {h : Hp} {t : Nat} {x : Tx} (g : GG L h) (ht : isT t) (hR : RepC h t x) {r : Int} : ∀ (d m : Nat) (c : Int) (y z : Option Vl), m + d = 100 → 0 ≤ c ∧ c ≤ m → c + sm (fun m => if 1 < sm (fun i => if x.2.1 3 i = (m : Int) then (1 : Int) else 0) 0 x.1 then (1 : Int) else 0) m d = r → RN 91 4 [some (.inr (.inr (some t))), some (.inl c), some (.inl (m : Int)), y, z] [] h 0 0 (fun v h2 => h2 = h ∧ v = some (.inl r)) := by
  obtain ⟨T1, T2, T3, T4, T5, T6, T7⟩ := g.tx ht
  obtain ⟨I0, I1, I2, I3, I4, J0, J1, J2, F0, F1, F2, F3, F4, P0, P1, P2⟩ := hR.use g ht
  obtain ⟨R1, R2, -⟩ := id hR
  have hm : mrec 91 = some nM91 := rfl
  intro d
  induction d with
  | zero =>
    intro m c y z hi hc hr
    refine r_iload_n hm rfl (k := ?_)
    refine r_bipush hm rfl (k := ?_)
    refine r_icmp_ge (t := 61) hm rfl rfl (fun c7 => ?_) (fun c7 => ?_)
    · refine r_iload_n hm rfl (k := ?_)
      refine r_ireturn hm rfl rfl (by rfl) (Nat.le_of_ble_eq_true rfl) (Nat.le_of_ble_eq_true rfl) ?_
      exact ⟨rfl, by rw [← hr]; simp [sm]⟩
    · exfalso; omega
  | succ d ih =>
    intro m c y z hi hc hr
    refine r_iload_n hm rfl (k := ?_)
    refine r_bipush hm rfl (k := ?_)
    refine r_icmp_ge (t := 61) hm rfl rfl (fun c7 => ?_) (fun c7 => ?_)
    · exfalso; omega
    · refine r_iconst hm rfl (k := ?_)
      refine r_istore_n hm rfl (k := ?_)
      refine r_iconst hm rfl (k := ?_)
      refine r_istore hm rfl (k := ?_)
      refine c_twice_k g ht hR (r := sm (fun i => if x.2.1 3 i = (m : Int) then (1 : Int) else 0) 0 x.1) ?_ x.1 0 0 (by omega) (by omega) (by omega)
      have hb9 := sm_le (f := fun i => if x.2.1 3 i = (m : Int) then (1 : Int) else 0) (B := 1) (fun k => by split <;> omega) x.1 0
      refine r_iload_n hm rfl (k := ?_)
      refine r_iconst hm rfl (k := ?_)
      refine r_icmp_le (t := 55) hm rfl rfl (fun c49 => ?_) (fun c49 => ?_)
      · refine r_iinc hm rfl (hr := (by omega)) (k := ?_)
        refine r_goto (t := 4) hm rfl (k := ?_)
        first | exact ih (m + 1) (c + 1) _ _ (by omega) (by omega) (by rw [← hr]; simp only [sm]; rw [if_pos (by omega)]; omega) | exact ih (m + 1) c _ _ (by omega) (by omega) (by rw [← hr]; simp only [sm]; rw [if_neg (by omega)]; omega)
      · refine r_iinc hm rfl (hr := (by omega)) (k := ?_)
        refine r_iinc hm rfl (hr := (by omega)) (k := ?_)
        refine r_goto (t := 4) hm rfl (k := ?_)
        first | exact ih (m + 1) (c + 1) _ _ (by omega) (by omega) (by rw [← hr]; simp only [sm]; rw [if_pos (by omega)]; omega) | exact ih (m + 1) c _ _ (by omega) (by omega) (by rw [← hr]; simp only [sm]; rw [if_neg (by omega)]; omega)
theorem c_twice {L : Nat} {h : Hp} {t : Nat} {x : Tx} (g : GG L h) (ht : isT t) (hR : RepC h t x) : RN 91 0 [some (.inr (.inr (some t))), none, none, none, none] [] h 0 0 (fun v h2 => h2 = h ∧ v = some (.inl (sm (fun m => if 1 < sm (fun i => if x.2.1 3 i = (m : Int) then (1 : Int) else 0) 0 x.1 then (1 : Int) else 0) 0 100))) := by
  obtain ⟨T1, T2, T3, T4, T5, T6, T7⟩ := g.tx ht
  obtain ⟨I0, I1, I2, I3, I4, J0, J1, J2, F0, F1, F2, F3, F4, P0, P1, P2⟩ := hR.use g ht
  obtain ⟨R1, R2, -⟩ := id hR
  have hm : mrec 91 = some nM91 := rfl
  refine r_iconst hm rfl (k := ?_)
  refine r_istore_n hm rfl (k := ?_)
  refine r_iconst hm rfl (k := ?_)
  refine r_istore_n hm rfl (k := ?_)
  exact c_twice_l g ht hR 100 0 0 none none (by omega) (by omega) (by omega)
theorem c_firstCaller_k {L : Nat} {h : Hp} {t : Nat} {x : Tx} (g : GG L h) (ht : isT t) (hR : RepC h t x) (hok : okTx x) {i : Nat} {pl mk r : Int} (hi : i < x.1) : ∀ (d k : Nat), ((k : Nat) : Int) + (d : Nat) = x.2.1 4 i → (an (fun k => decide (x.2.2.1 0 i k = 1 ∧ x.2.2.1 1 i k = mk)) k d = true → r = (i : Int)) → (an (fun k => decide (x.2.2.1 0 i k = 1 ∧ x.2.2.1 1 i k = mk)) k d = false → RN 93 56 [some (.inr (.inr (some t))), some (.inl pl), some (.inl mk), some (.inl (i : Int)), some (.inl (x.2.1 4 i))] [] h 0 0 (fun v h2 => h2 = h ∧ v = some (.inl r))) → RN 93 19 [some (.inr (.inr (some t))), some (.inl pl), some (.inl mk), some (.inl (i : Int)), some (.inl (k : Int))] [] h 0 0 (fun v h2 => h2 = h ∧ v = some (.inl r)) := by
  obtain ⟨T1, T2, T3, T4, T5, T6, T7⟩ := g.tx ht
  obtain ⟨I0, I1, I2, I3, I4, J0, J1, J2, F0, F1, F2, F3, F4, P0, P1, P2⟩ := hR.use g ht
  obtain ⟨R1, R2, -⟩ := id hR
  have hm : mrec 93 = some nM93 := rfl
  have hki := hok.2.1 i hi
  unfold okIt at hki
  intro d
  induction d with
  | zero =>
    intro k hk h1 h2
    refine r_iload hm rfl (k := ?_)
    refine r_aload_n hm rfl (k := ?_)
    refine r_getR (hm := hm) (hf := rfl) (hd := rfl) (hs := (by first | assumption | exact I1 _ (by omega) | exact I2 _ (by omega) | exact I3 _ (by omega) | exact I4 _ (by omega))) (hv := (by first | assumption | exact I0 _ (by omega) | exact J0 _ (by omega) | exact J1 _ (by omega) | exact J2 _ (by omega) | exact F0 _ (by omega) | exact F1 _ (by omega) | exact F2 _ (by omega) | exact F3 _ (by omega) | exact F4 _ (by omega) | exact P0 _ _ (by omega) (by omega) | exact P1 _ _ (by omega) (by omega) | exact P2 _ _ (by omega) (by omega))) (k := ?_)
    refine r_iload_n hm rfl (k := ?_)
    refine r_aald (hm := hm) (hf := rfl) (hs := (by first | assumption | exact I1 _ (by omega) | exact I2 _ (by omega) | exact I3 _ (by omega) | exact I4 _ (by omega))) (hkd := by decide) (hi := rfl) (hn := (by omega)) (hv := (by first | assumption | exact I0 _ (by omega) | exact J0 _ (by omega) | exact J1 _ (by omega) | exact J2 _ (by omega) | exact F0 _ (by omega) | exact F1 _ (by omega) | exact F2 _ (by omega) | exact F3 _ (by omega) | exact F4 _ (by omega) | exact P0 _ _ (by omega) (by omega) | exact P1 _ _ (by omega) (by omega) | exact P2 _ _ (by omega) (by omega))) (k := ?_)
    refine r_getI (hm := hm) (hf := rfl) (hd := rfl) (hs := (by first | assumption | exact I1 _ (by omega) | exact I2 _ (by omega) | exact I3 _ (by omega) | exact I4 _ (by omega))) (hv := (by first | assumption | exact I0 _ (by omega) | exact J0 _ (by omega) | exact J1 _ (by omega) | exact J2 _ (by omega) | exact F0 _ (by omega) | exact F1 _ (by omega) | exact F2 _ (by omega) | exact F3 _ (by omega) | exact F4 _ (by omega) | exact P0 _ _ (by omega) (by omega) | exact P1 _ _ (by omega) (by omega) | exact P2 _ _ (by omega) (by omega))) (k := ?_)
    refine r_icmp_ge (t := 56) hm rfl rfl (fun c30 => ?_) (fun c30 => ?_)
    · have e2 : (k : Int) = x.2.1 4 i := by omega
      rw [e2]
      exact h2 rfl
    · exfalso; omega
  | succ d ih =>
    intro k hk h1 h2
    refine r_iload hm rfl (k := ?_)
    refine r_aload_n hm rfl (k := ?_)
    refine r_getR (hm := hm) (hf := rfl) (hd := rfl) (hs := (by first | assumption | exact I1 _ (by omega) | exact I2 _ (by omega) | exact I3 _ (by omega) | exact I4 _ (by omega))) (hv := (by first | assumption | exact I0 _ (by omega) | exact J0 _ (by omega) | exact J1 _ (by omega) | exact J2 _ (by omega) | exact F0 _ (by omega) | exact F1 _ (by omega) | exact F2 _ (by omega) | exact F3 _ (by omega) | exact F4 _ (by omega) | exact P0 _ _ (by omega) (by omega) | exact P1 _ _ (by omega) (by omega) | exact P2 _ _ (by omega) (by omega))) (k := ?_)
    refine r_iload_n hm rfl (k := ?_)
    refine r_aald (hm := hm) (hf := rfl) (hs := (by first | assumption | exact I1 _ (by omega) | exact I2 _ (by omega) | exact I3 _ (by omega) | exact I4 _ (by omega))) (hkd := by decide) (hi := rfl) (hn := (by omega)) (hv := (by first | assumption | exact I0 _ (by omega) | exact J0 _ (by omega) | exact J1 _ (by omega) | exact J2 _ (by omega) | exact F0 _ (by omega) | exact F1 _ (by omega) | exact F2 _ (by omega) | exact F3 _ (by omega) | exact F4 _ (by omega) | exact P0 _ _ (by omega) (by omega) | exact P1 _ _ (by omega) (by omega) | exact P2 _ _ (by omega) (by omega))) (k := ?_)
    refine r_getI (hm := hm) (hf := rfl) (hd := rfl) (hs := (by first | assumption | exact I1 _ (by omega) | exact I2 _ (by omega) | exact I3 _ (by omega) | exact I4 _ (by omega))) (hv := (by first | assumption | exact I0 _ (by omega) | exact J0 _ (by omega) | exact J1 _ (by omega) | exact J2 _ (by omega) | exact F0 _ (by omega) | exact F1 _ (by omega) | exact F2 _ (by omega) | exact F3 _ (by omega) | exact F4 _ (by omega) | exact P0 _ _ (by omega) (by omega) | exact P1 _ _ (by omega) (by omega) | exact P2 _ _ (by omega) (by omega))) (k := ?_)
    refine r_icmp_ge (t := 56) hm rfl rfl (fun c30 => ?_) (fun c30 => ?_)
    · exfalso; omega
    · refine r_aload_n hm rfl (k := ?_)
      refine r_getR (hm := hm) (hf := rfl) (hd := rfl) (hs := (by first | assumption | exact I1 _ (by omega) | exact I2 _ (by omega) | exact I3 _ (by omega) | exact I4 _ (by omega))) (hv := (by first | assumption | exact I0 _ (by omega) | exact J0 _ (by omega) | exact J1 _ (by omega) | exact J2 _ (by omega) | exact F0 _ (by omega) | exact F1 _ (by omega) | exact F2 _ (by omega) | exact F3 _ (by omega) | exact F4 _ (by omega) | exact P0 _ _ (by omega) (by omega) | exact P1 _ _ (by omega) (by omega) | exact P2 _ _ (by omega) (by omega))) (k := ?_)
      refine r_iload_n hm rfl (k := ?_)
      refine r_aald (hm := hm) (hf := rfl) (hs := (by first | assumption | exact I1 _ (by omega) | exact I2 _ (by omega) | exact I3 _ (by omega) | exact I4 _ (by omega))) (hkd := by decide) (hi := rfl) (hn := (by omega)) (hv := (by first | assumption | exact I0 _ (by omega) | exact J0 _ (by omega) | exact J1 _ (by omega) | exact J2 _ (by omega) | exact F0 _ (by omega) | exact F1 _ (by omega) | exact F2 _ (by omega) | exact F3 _ (by omega) | exact F4 _ (by omega) | exact P0 _ _ (by omega) (by omega) | exact P1 _ _ (by omega) (by omega) | exact P2 _ _ (by omega) (by omega))) (k := ?_)
      refine r_iload hm rfl (k := ?_)
      refine r_iload_n hm rfl (k := ?_)
      refine r_callv (j2 := 95) hm rfl rfl rfl rfl rfl rfl (by first | assumption | exact I1 _ (by omega) | exact I2 _ (by omega) | exact I3 _ (by omega) | exact I4 _ (by omega)) (Nat.le_of_ble_eq_true rfl) (Nat.le_of_ble_eq_true rfl) rfl ⟨Nat.le_of_ble_eq_true rfl, Nat.le_of_ble_eq_true rfl, Nat.le_of_ble_eq_true rfl, Nat.le_of_ble_eq_true rfl, Nat.le_of_ble_eq_true rfl⟩ rfl (c_callsMark g ht hR hi (by omega) (by omega)) (fun v9 h9 p9 => ?_)
      obtain ⟨e1, e2⟩ := p9
      subst e2
      subst e1
      change RN 93 45 _ _ _ 0 0 _
      dsimp only [Option.toList, List.cons_append, List.nil_append]
      refine r_if_eq (t := 50) hm rfl rfl (fun c45 => ?_) (fun c45 => ?_)
      · refine r_iinc hm rfl (hr := (by omega)) (k := ?_)
        refine r_goto (t := 19) hm rfl (k := ?_)
        exact ih (k + 1) (by omega) (fun q => h1 (by simp only [an, q, Bool.or_true])) (fun q => h2 (by simp only [an, q, Bool.or_false]; simp_all))
      · refine r_iload_n hm rfl (k := ?_)
        refine r_ireturn hm rfl rfl (by rfl) (Nat.le_of_ble_eq_true rfl) (Nat.le_of_ble_eq_true rfl) ?_
        exact ⟨rfl, by rw [h1 (by simp only [an]; simp_all)]⟩
theorem c_firstCaller_l {L : Nat} {h : Hp} {t : Nat} {x : Tx} (g : GG L h) (ht : isT t) (hR : RepC h t x) (hok : okTx x) {pl mk r : Int} : ∀ (d i : Nat) (z : Option Vl), i + d = x.1 → fi (fun i => an (fun k => decide (x.2.2.1 0 i k = 1 ∧ x.2.2.1 1 i k = mk)) 0 (x.2.1 4 i).toNat) i d = r → RN 93 8 [some (.inr (.inr (some t))), some (.inl pl), some (.inl mk), some (.inl (i : Int)), z] [] h 0 0 (fun v h2 => h2 = h ∧ v = some (.inl r)) := by
  obtain ⟨T1, T2, T3, T4, T5, T6, T7⟩ := g.tx ht
  obtain ⟨I0, I1, I2, I3, I4, J0, J1, J2, F0, F1, F2, F3, F4, P0, P1, P2⟩ := hR.use g ht
  obtain ⟨R1, R2, -⟩ := id hR
  have hm : mrec 93 = some nM93 := rfl
  intro d
  induction d with
  | zero =>
    intro i z hi hr
    refine r_iload_n hm rfl (k := ?_)
    refine r_aload_n hm rfl (k := ?_)
    refine r_getI (hm := hm) (hf := rfl) (hd := rfl) (hs := (by first | assumption | exact I1 _ (by omega) | exact I2 _ (by omega) | exact I3 _ (by omega) | exact I4 _ (by omega))) (hv := (by first | assumption | exact I0 _ (by omega) | exact J0 _ (by omega) | exact J1 _ (by omega) | exact J2 _ (by omega) | exact F0 _ (by omega) | exact F1 _ (by omega) | exact F2 _ (by omega) | exact F3 _ (by omega) | exact F4 _ (by omega) | exact P0 _ _ (by omega) (by omega) | exact P1 _ _ (by omega) (by omega) | exact P2 _ _ (by omega) (by omega))) (k := ?_)
    refine r_icmp_ge (t := 62) hm rfl rfl (fun c13 => ?_) (fun c13 => ?_)
    · refine r_iconst hm rfl (k := ?_)
      refine r_ireturn hm rfl rfl (by rfl) (Nat.le_of_ble_eq_true rfl) (Nat.le_of_ble_eq_true rfl) ?_
      exact ⟨rfl, by rw [← hr]; rfl⟩
    · exfalso; omega
  | succ d ih =>
    intro i z hi hr
    have hki := hok.2.1 i (by omega)
    unfold okIt at hki
    refine r_iload_n hm rfl (k := ?_)
    refine r_aload_n hm rfl (k := ?_)
    refine r_getI (hm := hm) (hf := rfl) (hd := rfl) (hs := (by first | assumption | exact I1 _ (by omega) | exact I2 _ (by omega) | exact I3 _ (by omega) | exact I4 _ (by omega))) (hv := (by first | assumption | exact I0 _ (by omega) | exact J0 _ (by omega) | exact J1 _ (by omega) | exact J2 _ (by omega) | exact F0 _ (by omega) | exact F1 _ (by omega) | exact F2 _ (by omega) | exact F3 _ (by omega) | exact F4 _ (by omega) | exact P0 _ _ (by omega) (by omega) | exact P1 _ _ (by omega) (by omega) | exact P2 _ _ (by omega) (by omega))) (k := ?_)
    refine r_icmp_ge (t := 62) hm rfl rfl (fun c13 => ?_) (fun c13 => ?_)
    · exfalso; omega
    · refine r_iconst hm rfl (k := ?_)
      refine r_istore hm rfl (k := ?_)
      refine c_firstCaller_k g ht hR hok (i := i) (by omega) (x.2.1 4 i).toNat 0 (by omega) (fun q => by rw [← hr]; simp only [fi]; rw [if_pos q]) (fun q => ?_)
      refine r_iinc hm rfl (hr := (by omega)) (k := ?_)
      refine r_goto (t := 8) hm rfl (k := ?_)
      exact ih (i + 1) _ (by omega) (by rw [← hr]; simp only [fi]; rw [if_neg (by rw [q]; decide)])
/-- the place of the first paragraph that calls item i -/
def fcl (x : Tx) (i : Nat) : Int := fi (fun q => an (fun k => decide (x.2.2.1 0 q k = 1 ∧ x.2.2.1 1 q k = mtm x i)) 0 (x.2.1 4 q).toNat) 0 x.1
theorem c_firstCaller {L : Nat} {h : Hp} {t : Nat} {x : Tx} (g : GG L h) (ht : isT t) (hR : RepC h t x) (hok : okTx x) {i : Nat} (hi : i < x.1) : RN 93 0 [some (.inr (.inr (some t))), some (.inl (i : Int)), none, none, none] [] h 0 0 (fun v h2 => h2 = h ∧ v = some (.inl (fcl x i))) := by
  obtain ⟨T1, T2, T3, T4, T5, T6, T7⟩ := g.tx ht
  obtain ⟨I0, I1, I2, I3, I4, J0, J1, J2, F0, F1, F2, F3, F4, P0, P1, P2⟩ := hR.use g ht
  obtain ⟨R1, R2, -⟩ := id hR
  have hm : mrec 93 = some nM93 := rfl
  refine r_aload_n hm rfl (k := ?_)
  refine r_iload_n hm rfl (k := ?_)
  refine r_callv (j2 := 94) hm rfl rfl rfl rfl rfl rfl (by first | assumption | exact I1 _ (by omega) | exact I2 _ (by omega) | exact I3 _ (by omega) | exact I4 _ (by omega)) (Nat.le_of_ble_eq_true rfl) (Nat.le_of_ble_eq_true rfl) rfl ⟨Nat.le_of_ble_eq_true rfl, Nat.le_of_ble_eq_true rfl, Nat.le_of_ble_eq_true rfl, Nat.le_of_ble_eq_true rfl, Nat.le_of_ble_eq_true rfl⟩ rfl (c_mtm g ht hR hi) (fun v9 h9 p9 => ?_)
  obtain ⟨e1, e2⟩ := p9
  subst e2
  subst e1
  change RN 93 5 _ _ _ 0 0 _
  dsimp only [Option.toList, List.cons_append, List.nil_append]
  refine r_istore_n hm rfl (k := ?_)
  refine r_iconst hm rfl (k := ?_)
  refine r_istore_n hm rfl (k := ?_)
  exact c_firstCaller_l g ht hR hok x.1 0 none (by omega) rfl
theorem c_countLonely_l {L : Nat} {h : Hp} {t : Nat} {x : Tx} (g : GG L h) (ht : isT t) (hR : RepC h t x) (hok : okTx x) {r : Int} : ∀ (d i : Nat) (c : Int), i + d = x.1 → 0 ≤ c ∧ c ≤ i → c + sm (fun i => if (x.2.1 1 i = 2 ∨ x.2.1 1 i = 3) ∧ fcl x i = -1 then (1 : Int) else 0) i d = r → RN 92 4 [some (.inr (.inr (some t))), some (.inl c), some (.inl (i : Int))] [] h 0 0 (fun v h2 => h2 = h ∧ v = some (.inl r)) := by
  obtain ⟨T1, T2, T3, T4, T5, T6, T7⟩ := g.tx ht
  obtain ⟨I0, I1, I2, I3, I4, J0, J1, J2, F0, F1, F2, F3, F4, P0, P1, P2⟩ := hR.use g ht
  obtain ⟨R1, R2, -⟩ := id hR
  have hm : mrec 92 = some nM92 := rfl
  intro d
  induction d with
  | zero =>
    intro i c hi hc hr
    refine r_iload_n hm rfl (k := ?_)
    refine r_aload_n hm rfl (k := ?_)
    refine r_getI (hm := hm) (hf := rfl) (hd := rfl) (hs := (by first | assumption | exact I1 _ (by omega) | exact I2 _ (by omega) | exact I3 _ (by omega) | exact I4 _ (by omega))) (hv := (by first | assumption | exact I0 _ (by omega) | exact J0 _ (by omega) | exact J1 _ (by omega) | exact J2 _ (by omega) | exact F0 _ (by omega) | exact F1 _ (by omega) | exact F2 _ (by omega) | exact F3 _ (by omega) | exact F4 _ (by omega) | exact P0 _ _ (by omega) (by omega) | exact P1 _ _ (by omega) (by omega) | exact P2 _ _ (by omega) (by omega))) (k := ?_)
    refine r_icmp_ge (t := 42) hm rfl rfl (fun c9 => ?_) (fun c9 => ?_)
    · refine r_iload_n hm rfl (k := ?_)
      refine r_ireturn hm rfl rfl (by rfl) (Nat.le_of_ble_eq_true rfl) (Nat.le_of_ble_eq_true rfl) ?_
      exact ⟨rfl, by rw [← hr]; simp [sm]⟩
    · exfalso; omega
  | succ d ih =>
    intro i c hi hc hr
    refine r_iload_n hm rfl (k := ?_)
    refine r_aload_n hm rfl (k := ?_)
    refine r_getI (hm := hm) (hf := rfl) (hd := rfl) (hs := (by first | assumption | exact I1 _ (by omega) | exact I2 _ (by omega) | exact I3 _ (by omega) | exact I4 _ (by omega))) (hv := (by first | assumption | exact I0 _ (by omega) | exact J0 _ (by omega) | exact J1 _ (by omega) | exact J2 _ (by omega) | exact F0 _ (by omega) | exact F1 _ (by omega) | exact F2 _ (by omega) | exact F3 _ (by omega) | exact F4 _ (by omega) | exact P0 _ _ (by omega) (by omega) | exact P1 _ _ (by omega) (by omega) | exact P2 _ _ (by omega) (by omega))) (k := ?_)
    refine r_icmp_ge (t := 42) hm rfl rfl (fun c9 => ?_) (fun c9 => ?_)
    · exfalso; omega
    · refine r_aload_n hm rfl (k := ?_)
      refine r_getR (hm := hm) (hf := rfl) (hd := rfl) (hs := (by first | assumption | exact I1 _ (by omega) | exact I2 _ (by omega) | exact I3 _ (by omega) | exact I4 _ (by omega))) (hv := (by first | assumption | exact I0 _ (by omega) | exact J0 _ (by omega) | exact J1 _ (by omega) | exact J2 _ (by omega) | exact F0 _ (by omega) | exact F1 _ (by omega) | exact F2 _ (by omega) | exact F3 _ (by omega) | exact F4 _ (by omega) | exact P0 _ _ (by omega) (by omega) | exact P1 _ _ (by omega) (by omega) | exact P2 _ _ (by omega) (by omega))) (k := ?_)
      refine r_iload_n hm rfl (k := ?_)
      refine r_aald (hm := hm) (hf := rfl) (hs := (by first | assumption | exact I1 _ (by omega) | exact I2 _ (by omega) | exact I3 _ (by omega) | exact I4 _ (by omega))) (hkd := by decide) (hi := rfl) (hn := (by omega)) (hv := (by first | assumption | exact I0 _ (by omega) | exact J0 _ (by omega) | exact J1 _ (by omega) | exact J2 _ (by omega) | exact F0 _ (by omega) | exact F1 _ (by omega) | exact F2 _ (by omega) | exact F3 _ (by omega) | exact F4 _ (by omega) | exact P0 _ _ (by omega) (by omega) | exact P1 _ _ (by omega) (by omega) | exact P2 _ _ (by omega) (by omega))) (k := ?_)
      refine r_callv (j2 := 46) hm rfl rfl rfl rfl rfl rfl (by first | assumption | exact I1 _ (by omega) | exact I2 _ (by omega) | exact I3 _ (by omega) | exact I4 _ (by omega)) (Nat.le_of_ble_eq_true rfl) (Nat.le_of_ble_eq_true rfl) rfl ⟨Nat.le_of_ble_eq_true rfl, Nat.le_of_ble_eq_true rfl, Nat.le_of_ble_eq_true rfl, Nat.le_of_ble_eq_true rfl, Nat.le_of_ble_eq_true rfl⟩ rfl (c_floats g ht hR (by omega)) (fun v9 h9 p9 => ?_)
      obtain ⟨e1, e2⟩ := p9
      subst e2
      subst e1
      change RN 92 21 _ _ _ 0 0 _
      dsimp only [Option.toList, List.cons_append, List.nil_append]
      refine r_if_eq (t := 36) hm rfl rfl (fun c21 => ?_) (fun c21 => ?_)
      · refine r_iinc hm rfl (hr := (by omega)) (k := ?_)
        refine r_goto (t := 4) hm rfl (k := ?_)
        first | exact ih (i + 1) (c + 1) (by omega) (by omega) (by rw [← hr]; simp only [sm]; by_cases hfl : x.2.1 1 i = 2 ∨ x.2.1 1 i = 3 <;> first | (rw [if_pos (And.intro (by assumption) (by omega))]; omega) | (exfalso; simp only [hfl] at c21; revert c21; simp; done) | (rw [if_neg (by omega)]; omega)) | exact ih (i + 1) c (by omega) (by omega) (by rw [← hr]; simp only [sm]; by_cases hfl : x.2.1 1 i = 2 ∨ x.2.1 1 i = 3 <;> first | (rw [if_pos (And.intro (by assumption) (by omega))]; omega) | (exfalso; simp only [hfl] at c21; revert c21; simp; done) | (rw [if_neg (by omega)]; omega))
      · refine r_aload_n hm rfl (k := ?_)
        refine r_iload_n hm rfl (k := ?_)
        refine r_callv (j2 := 93) hm rfl rfl rfl rfl rfl rfl (by first | assumption | exact I1 _ (by omega) | exact I2 _ (by omega) | exact I3 _ (by omega) | exact I4 _ (by omega)) (Nat.le_of_ble_eq_true rfl) (Nat.le_of_ble_eq_true rfl) rfl ⟨Nat.le_of_ble_eq_true rfl, Nat.le_of_ble_eq_true rfl, Nat.le_of_ble_eq_true rfl, Nat.le_of_ble_eq_true rfl, Nat.le_of_ble_eq_true rfl⟩ rfl (c_firstCaller g ht hR hok (by omega)) (fun v9 h9 p9 => ?_)
        obtain ⟨e1, e2⟩ := p9
        subst e2
        subst e1
        change RN 92 29 _ _ _ 0 0 _
        dsimp only [Option.toList, List.cons_append, List.nil_append]
        refine r_iconst hm rfl (k := ?_)
        refine r_icmp_ne (t := 36) hm rfl rfl (fun c30 => ?_) (fun c30 => ?_)
        · refine r_iinc hm rfl (hr := (by omega)) (k := ?_)
          refine r_goto (t := 4) hm rfl (k := ?_)
          first | exact ih (i + 1) (c + 1) (by omega) (by omega) (by rw [← hr]; simp only [sm]; by_cases hfl : x.2.1 1 i = 2 ∨ x.2.1 1 i = 3 <;> first | (rw [if_pos (And.intro (by assumption) (by omega))]; omega) | (exfalso; simp only [hfl] at c21; revert c21; simp; done) | (rw [if_neg (by omega)]; omega)) | exact ih (i + 1) c (by omega) (by omega) (by rw [← hr]; simp only [sm]; by_cases hfl : x.2.1 1 i = 2 ∨ x.2.1 1 i = 3 <;> first | (rw [if_pos (And.intro (by assumption) (by omega))]; omega) | (exfalso; simp only [hfl] at c21; revert c21; simp; done) | (rw [if_neg (by omega)]; omega))
        · refine r_iinc hm rfl (hr := (by omega)) (k := ?_)
          refine r_iinc hm rfl (hr := (by omega)) (k := ?_)
          refine r_goto (t := 4) hm rfl (k := ?_)
          first | exact ih (i + 1) (c + 1) (by omega) (by omega) (by rw [← hr]; simp only [sm]; by_cases hfl : x.2.1 1 i = 2 ∨ x.2.1 1 i = 3 <;> first | (rw [if_pos (And.intro (by assumption) (by omega))]; omega) | (exfalso; simp only [hfl] at c21; revert c21; simp; done) | (rw [if_neg (by omega)]; omega)) | exact ih (i + 1) c (by omega) (by omega) (by rw [← hr]; simp only [sm]; by_cases hfl : x.2.1 1 i = 2 ∨ x.2.1 1 i = 3 <;> first | (rw [if_pos (And.intro (by assumption) (by omega))]; omega) | (exfalso; simp only [hfl] at c21; revert c21; simp; done) | (rw [if_neg (by omega)]; omega))
theorem c_countLonely {L : Nat} {h : Hp} {t : Nat} {x : Tx} (g : GG L h) (ht : isT t) (hR : RepC h t x) (hok : okTx x) : RN 92 0 [some (.inr (.inr (some t))), none, none] [] h 0 0 (fun v h2 => h2 = h ∧ v = some (.inl (sm (fun i => if (x.2.1 1 i = 2 ∨ x.2.1 1 i = 3) ∧ fcl x i = -1 then (1 : Int) else 0) 0 x.1))) := by
  obtain ⟨T1, T2, T3, T4, T5, T6, T7⟩ := g.tx ht
  obtain ⟨I0, I1, I2, I3, I4, J0, J1, J2, F0, F1, F2, F3, F4, P0, P1, P2⟩ := hR.use g ht
  obtain ⟨R1, R2, -⟩ := id hR
  have hm : mrec 92 = some nM92 := rfl
  refine r_iconst hm rfl (k := ?_)
  refine r_istore_n hm rfl (k := ?_)
  refine r_iconst hm rfl (k := ?_)
  refine r_istore_n hm rfl (k := ?_)
  exact c_countLonely_l g ht hR hok x.1 0 0 (by omega) (by omega) (by omega)
theorem c_countLate_l {L : Nat} {h : Hp} {t : Nat} {x : Tx} (g : GG L h) (ht : isT t) (hR : RepC h t x) (hok : okTx x) {r : Int} : ∀ (d i : Nat) (c : Int), i + d = x.1 → 0 ≤ c ∧ c ≤ i → c + sm (fun i => if (x.2.1 1 i = 2 ∨ x.2.1 1 i = 3) ∧ (i : Int) < fcl x i then (1 : Int) else 0) i d = r → RN 96 4 [some (.inr (.inr (some t))), some (.inl c), some (.inl (i : Int))] [] h 0 0 (fun v h2 => h2 = h ∧ v = some (.inl r)) := by
  obtain ⟨T1, T2, T3, T4, T5, T6, T7⟩ := g.tx ht
  obtain ⟨I0, I1, I2, I3, I4, J0, J1, J2, F0, F1, F2, F3, F4, P0, P1, P2⟩ := hR.use g ht
  obtain ⟨R1, R2, -⟩ := id hR
  have hm : mrec 96 = some nM96 := rfl
  intro d
  induction d with
  | zero =>
    intro i c hi hc hr
    refine r_iload_n hm rfl (k := ?_)
    refine r_aload_n hm rfl (k := ?_)
    refine r_getI (hm := hm) (hf := rfl) (hd := rfl) (hs := (by first | assumption | exact I1 _ (by omega) | exact I2 _ (by omega) | exact I3 _ (by omega) | exact I4 _ (by omega))) (hv := (by first | assumption | exact I0 _ (by omega) | exact J0 _ (by omega) | exact J1 _ (by omega) | exact J2 _ (by omega) | exact F0 _ (by omega) | exact F1 _ (by omega) | exact F2 _ (by omega) | exact F3 _ (by omega) | exact F4 _ (by omega) | exact P0 _ _ (by omega) (by omega) | exact P1 _ _ (by omega) (by omega) | exact P2 _ _ (by omega) (by omega))) (k := ?_)
    refine r_icmp_ge (t := 42) hm rfl rfl (fun c9 => ?_) (fun c9 => ?_)
    · refine r_iload_n hm rfl (k := ?_)
      refine r_ireturn hm rfl rfl (by rfl) (Nat.le_of_ble_eq_true rfl) (Nat.le_of_ble_eq_true rfl) ?_
      exact ⟨rfl, by rw [← hr]; simp [sm]⟩
    · exfalso; omega
  | succ d ih =>
    intro i c hi hc hr
    refine r_iload_n hm rfl (k := ?_)
    refine r_aload_n hm rfl (k := ?_)
    refine r_getI (hm := hm) (hf := rfl) (hd := rfl) (hs := (by first | assumption | exact I1 _ (by omega) | exact I2 _ (by omega) | exact I3 _ (by omega) | exact I4 _ (by omega))) (hv := (by first | assumption | exact I0 _ (by omega) | exact J0 _ (by omega) | exact J1 _ (by omega) | exact J2 _ (by omega) | exact F0 _ (by omega) | exact F1 _ (by omega) | exact F2 _ (by omega) | exact F3 _ (by omega) | exact F4 _ (by omega) | exact P0 _ _ (by omega) (by omega) | exact P1 _ _ (by omega) (by omega) | exact P2 _ _ (by omega) (by omega))) (k := ?_)
    refine r_icmp_ge (t := 42) hm rfl rfl (fun c9 => ?_) (fun c9 => ?_)
    · exfalso; omega
    · refine r_aload_n hm rfl (k := ?_)
      refine r_getR (hm := hm) (hf := rfl) (hd := rfl) (hs := (by first | assumption | exact I1 _ (by omega) | exact I2 _ (by omega) | exact I3 _ (by omega) | exact I4 _ (by omega))) (hv := (by first | assumption | exact I0 _ (by omega) | exact J0 _ (by omega) | exact J1 _ (by omega) | exact J2 _ (by omega) | exact F0 _ (by omega) | exact F1 _ (by omega) | exact F2 _ (by omega) | exact F3 _ (by omega) | exact F4 _ (by omega) | exact P0 _ _ (by omega) (by omega) | exact P1 _ _ (by omega) (by omega) | exact P2 _ _ (by omega) (by omega))) (k := ?_)
      refine r_iload_n hm rfl (k := ?_)
      refine r_aald (hm := hm) (hf := rfl) (hs := (by first | assumption | exact I1 _ (by omega) | exact I2 _ (by omega) | exact I3 _ (by omega) | exact I4 _ (by omega))) (hkd := by decide) (hi := rfl) (hn := (by omega)) (hv := (by first | assumption | exact I0 _ (by omega) | exact J0 _ (by omega) | exact J1 _ (by omega) | exact J2 _ (by omega) | exact F0 _ (by omega) | exact F1 _ (by omega) | exact F2 _ (by omega) | exact F3 _ (by omega) | exact F4 _ (by omega) | exact P0 _ _ (by omega) (by omega) | exact P1 _ _ (by omega) (by omega) | exact P2 _ _ (by omega) (by omega))) (k := ?_)
      refine r_callv (j2 := 46) hm rfl rfl rfl rfl rfl rfl (by first | assumption | exact I1 _ (by omega) | exact I2 _ (by omega) | exact I3 _ (by omega) | exact I4 _ (by omega)) (Nat.le_of_ble_eq_true rfl) (Nat.le_of_ble_eq_true rfl) rfl ⟨Nat.le_of_ble_eq_true rfl, Nat.le_of_ble_eq_true rfl, Nat.le_of_ble_eq_true rfl, Nat.le_of_ble_eq_true rfl, Nat.le_of_ble_eq_true rfl⟩ rfl (c_floats g ht hR (by omega)) (fun v9 h9 p9 => ?_)
      obtain ⟨e1, e2⟩ := p9
      subst e2
      subst e1
      change RN 96 21 _ _ _ 0 0 _
      dsimp only [Option.toList, List.cons_append, List.nil_append]
      refine r_if_eq (t := 36) hm rfl rfl (fun c21 => ?_) (fun c21 => ?_)
      · refine r_iinc hm rfl (hr := (by omega)) (k := ?_)
        refine r_goto (t := 4) hm rfl (k := ?_)
        first | exact ih (i + 1) (c + 1) (by omega) (by omega) (by rw [← hr]; simp only [sm]; by_cases hfl : x.2.1 1 i = 2 ∨ x.2.1 1 i = 3 <;> first | (rw [if_pos (And.intro (by assumption) (by omega))]; omega) | (exfalso; simp only [hfl] at c21; revert c21; simp; done) | (rw [if_neg (by omega)]; omega)) | exact ih (i + 1) c (by omega) (by omega) (by rw [← hr]; simp only [sm]; by_cases hfl : x.2.1 1 i = 2 ∨ x.2.1 1 i = 3 <;> first | (rw [if_pos (And.intro (by assumption) (by omega))]; omega) | (exfalso; simp only [hfl] at c21; revert c21; simp; done) | (rw [if_neg (by omega)]; omega))
      · refine r_aload_n hm rfl (k := ?_)
        refine r_iload_n hm rfl (k := ?_)
        refine r_callv (j2 := 93) hm rfl rfl rfl rfl rfl rfl (by first | assumption | exact I1 _ (by omega) | exact I2 _ (by omega) | exact I3 _ (by omega) | exact I4 _ (by omega)) (Nat.le_of_ble_eq_true rfl) (Nat.le_of_ble_eq_true rfl) rfl ⟨Nat.le_of_ble_eq_true rfl, Nat.le_of_ble_eq_true rfl, Nat.le_of_ble_eq_true rfl, Nat.le_of_ble_eq_true rfl, Nat.le_of_ble_eq_true rfl⟩ rfl (c_firstCaller g ht hR hok (by omega)) (fun v9 h9 p9 => ?_)
        obtain ⟨e1, e2⟩ := p9
        subst e2
        subst e1
        change RN 96 29 _ _ _ 0 0 _
        dsimp only [Option.toList, List.cons_append, List.nil_append]
        refine r_iload_n hm rfl (k := ?_)
        refine r_icmp_le (t := 36) hm rfl rfl (fun c30 => ?_) (fun c30 => ?_)
        · refine r_iinc hm rfl (hr := (by omega)) (k := ?_)
          refine r_goto (t := 4) hm rfl (k := ?_)
          first | exact ih (i + 1) (c + 1) (by omega) (by omega) (by rw [← hr]; simp only [sm]; by_cases hfl : x.2.1 1 i = 2 ∨ x.2.1 1 i = 3 <;> first | (rw [if_pos (And.intro (by assumption) (by omega))]; omega) | (exfalso; simp only [hfl] at c21; revert c21; simp; done) | (rw [if_neg (by omega)]; omega)) | exact ih (i + 1) c (by omega) (by omega) (by rw [← hr]; simp only [sm]; by_cases hfl : x.2.1 1 i = 2 ∨ x.2.1 1 i = 3 <;> first | (rw [if_pos (And.intro (by assumption) (by omega))]; omega) | (exfalso; simp only [hfl] at c21; revert c21; simp; done) | (rw [if_neg (by omega)]; omega))
        · refine r_iinc hm rfl (hr := (by omega)) (k := ?_)
          refine r_iinc hm rfl (hr := (by omega)) (k := ?_)
          refine r_goto (t := 4) hm rfl (k := ?_)
          first | exact ih (i + 1) (c + 1) (by omega) (by omega) (by rw [← hr]; simp only [sm]; by_cases hfl : x.2.1 1 i = 2 ∨ x.2.1 1 i = 3 <;> first | (rw [if_pos (And.intro (by assumption) (by omega))]; omega) | (exfalso; simp only [hfl] at c21; revert c21; simp; done) | (rw [if_neg (by omega)]; omega)) | exact ih (i + 1) c (by omega) (by omega) (by rw [← hr]; simp only [sm]; by_cases hfl : x.2.1 1 i = 2 ∨ x.2.1 1 i = 3 <;> first | (rw [if_pos (And.intro (by assumption) (by omega))]; omega) | (exfalso; simp only [hfl] at c21; revert c21; simp; done) | (rw [if_neg (by omega)]; omega))
theorem c_countLate {L : Nat} {h : Hp} {t : Nat} {x : Tx} (g : GG L h) (ht : isT t) (hR : RepC h t x) (hok : okTx x) : RN 96 0 [some (.inr (.inr (some t))), none, none] [] h 0 0 (fun v h2 => h2 = h ∧ v = some (.inl (sm (fun i => if (x.2.1 1 i = 2 ∨ x.2.1 1 i = 3) ∧ (i : Int) < fcl x i then (1 : Int) else 0) 0 x.1))) := by
  obtain ⟨T1, T2, T3, T4, T5, T6, T7⟩ := g.tx ht
  obtain ⟨I0, I1, I2, I3, I4, J0, J1, J2, F0, F1, F2, F3, F4, P0, P1, P2⟩ := hR.use g ht
  obtain ⟨R1, R2, -⟩ := id hR
  have hm : mrec 96 = some nM96 := rfl
  refine r_iconst hm rfl (k := ?_)
  refine r_istore_n hm rfl (k := ?_)
  refine r_iconst hm rfl (k := ?_)
  refine r_istore_n hm rfl (k := ?_)
  exact c_countLate_l g ht hR hok x.1 0 0 (by omega) (by omega) (by omega)
