/-! the class changes the text -/
theorem InvC.mut {L : Nat} {h h2 : Hp} {S : St} {x : Tx} {gv : Nat} (I : InvC L h S) (g2 : GG L h2) (hr : ∀ a k, a ≠ 30 → h2.2.2.1 a k = h.2.2.1 a k) (hi : ∀ a k, (a < 28 ∨ 273 ≤ a) → h2.2.1 a k = h.2.1 a k) (R : RepC h2 29 x) (h9 : h2.2.1 28 9 = (gv : Int)) (h10 : h2.2.1 28 10 = 0) : InvC L h2 (x, S.2.1, S.2.2.1, gv, S.2.2.2.2.1, S.2.2.2.2.2.1, S.2.2.2.2.2.2) := by
  obtain ⟨I1, I2, I3, I4, I5, I6, I7, I8, I9, I10⟩ := I
  exact ⟨g2, I2.fr (fun a k e => hr a k (by omega)) (fun a k e => hi a k (by omega)), R, fun v hv => (I4 v hv).fr (fun i => hr _ _ (by omega)) (fun a k e1 e2 => hi a k (by omega)), fun v hv => (hi _ _ (by omega)).trans (I5 v hv), h9, Or.inl h10, (hi _ _ (by omega)).trans I8, fun k hk => (hi _ _ (by omega)).trans (I9 k hk), (hi _ _ (by omega)).trans I10⟩
theorem itm_sep {h : Hp} {t : Nat} {x : Tx} (R : RepQ h t x) {i j : Nat} (hi : i < 60) (hj : j < 60) (e : i ≠ j) : (itm h t i + 3 < itm h t j ∨ itm h t j + 3 < itm h t i) := by
  obtain ⟨q, hq, e1⟩ := (R.2.1 i hi).2
  obtain ⟨q2, hq2, e2⟩ := (R.2.1 j hj).2
  have : itm h t i ≠ itm h t j := fun z => e (R.2.2.1 i j hi hj z)
  omega
theorem itm_rng {h : Hp} {t : Nat} {x : Tx} (R : RepQ h t x) {i : Nat} (hi : i < 60) : t + 4 ≤ itm h t i ∧ itm h t i + 3 < t + 244 := by
  obtain ⟨q, hq, e1⟩ := (R.2.1 i hi).2
  omega
/-- ints of the items, the style and the references decide -/
theorem RepQ.ch {h h2 : Hp} {t : Nat} {x y : Tx} (R : RepQ h t x) (hn : y.1 ≤ 60) (hr : ∀ i, h2.2.2.1 (t + 1) i = h.2.2.1 (t + 1) i) (h5 : ∀ f i, f < 5 → i < y.1 → h2.2.1 (itm h t i) (3 + f) = y.2.1 f i) (h6 : ∀ g i k : Nat, g < 3 → i < y.1 → (k : Int) < y.2.1 4 i → h2.2.1 (itm h t i + 1 + g) k = y.2.2.1 g i k) (h7 : ∀ k, k < 13 → h2.2.1 (t + 3) k = y.2.2.2 k) : RepQ h2 t y := by
  have ei : ∀ i, itm h2 t i = itm h t i := fun i => by unfold itm; rw [hr]
  obtain ⟨R2, R3, R4, -⟩ := R
  exact ⟨hn, fun i hi => by rw [ei, hr]; exact R3 i hi, fun i j hi hj => by rw [ei, ei]; exact R4 i j hi hj, fun f i hf hi => by rw [ei]; exact h5 f i hf hi, fun f i k hf hi hk => by rw [ei]; exact h6 f i k hf hi hk, h7⟩
theorem RepC_fd {h : Hp} {t : Nat} {x : Tx} {f q : Nat} {v : Int} (R : RepC h t x) (hf : f < 5) (hq : q < x.1) (hv : f = 4 → v ≤ x.2.1 4 q) : RepC (putI h (itm h t q) (3 + f) v) t (fdT x f q v) := by
  obtain ⟨R1, RQ⟩ := R
  have RQ : RepQ h t x := RQ
  have n60 := RQ.1
  have rq := itm_rng RQ (i := q) (by omega)
  obtain ⟨R2, R3, R4, R5, R6, R7⟩ := id RQ
  refine ⟨(putI_ne (by omega)).trans R1, ?_⟩
  refine RepQ.ch RQ n60 (fun i => rfl) (fun g i hg hi => ?_) (fun g i k hg hi hk => ?_) (fun k hk => (putI_ne (by omega)).trans (R7 k hk))
  · have hi2 : i < x.1 := hi
    show _ = if g = f ∧ i = q then v else x.2.1 g i
    by_cases c : g = f ∧ i = q
    · rw [if_pos c, c.1, c.2, putI_eq]
    · rw [if_neg c]
      by_cases d : i = q
      · subst d
        rw [putI_ne (by omega)]; exact R5 g i hg hi2
      · have := itm_sep RQ (i := i) (j := q) (by omega) (by omega) d
        rw [putI_ne (by omega)]; exact R5 g i hg hi2
  · have hi2 : i < x.1 := hi
    have hk2 : (k : Int) < if 4 = f ∧ i = q then v else x.2.1 4 i := hk
    have hk3 : (k : Int) < x.2.1 4 i := by
      by_cases c : 4 = f ∧ i = q
      · rw [if_pos c] at hk2
        have := hv c.1.symm
        rw [c.2]
        omega
      · rw [if_neg c] at hk2; exact hk2
    have e : itm h t i + 1 + g ≠ itm h t q := by
      by_cases d : i = q
      · subst d; omega
      · have := itm_sep RQ (i := i) (j := q) (by omega) (by omega) d
        omega
    rw [putI_ne (by omega)]; exact R6 g i k hg hi2 hk3
theorem ShR.gg {L : Nat} {h h2 : Hp} {t : Nat} {s : Nat → Nat} (m : ShR h h2 t s) (ht : isT t) (g : GG L h) : GG L h2 := by
  refine ⟨fun a => by rw [m.1]; exact g.1 a, fun a k b e => ?_⟩
  by_cases c : a = t + 1
  · rw [c, rff_T ht (by omega)] at e
    unfold rfT at e
    rw [if_neg (by omega), if_neg (by omega), if_neg (by omega)] at e
    cases e
  · rw [m.2.2.2.1 a k c]; exact g.2 a k b e
theorem ShR.put {h h1 : Hp} {t i m9 : Nat} {s : Nat → Nat} {v : Option Nat} (m : ShR h h1 t s) (hv : v = h.2.2.1 (t + 1) m9) : ShR h (putR h1 (t + 1) i v) t (upf s i m9) := by
  refine ⟨m.1, m.2.1, m.2.2.1, fun a k e => (putR_ne (by omega)).trans (m.2.2.2.1 a k e), fun j hj => ?_⟩
  by_cases c : j = i
  · rw [c, putR_eq, upf_eq, hv]
  · rw [putR_ne (by omega), upf_ne c]; exact m.2.2.2.2 j hj
theorem ShR.congr {h h1 : Hp} {t : Nat} {s s2 : Nat → Nat} (m : ShR h h1 t s) (e : ∀ j, j < 60 → s j = s2 j) : ShR h h1 t s2 := ⟨m.1, m.2.1, m.2.2.1, m.2.2.2.1, fun j hj => by rw [← e j hj]; exact m.2.2.2.2 j hj⟩
set_option maxRecDepth 8000 in
theorem c_shift {L : Nat} {h : Hp} {t fr to : Nat} {x : Tx} (g : GG L h) (ht : isT t) (RQ : RepQ h t x) (hf : fr < 60) (hto : to < 60) : RN 20 0 [some (.inr (.inr (some (t)))), some (.inl (fr : Int)), some (.inl (to : Int)), none, none] [] h 0 0 (fun v h2 => ShR h h2 t (shI fr to) ∧ v = none) := by
  have hm : mrec 20 = some nM20 := rfl
  have g1 := g
  obtain ⟨T1, T2, T3, T4, T5, T6, T7⟩ := g1.tx ht
  have IT := fun q (hq : q < 60) => (g1.it ht (RQ.2.1 q hq).2).1
  have I0 := fun q (hq : q < 60) => (RQ.2.1 q hq).1
  refine r_aload_n hm rfl (k := ?_)
  refine r_getR (hm := hm) (hf := rfl) (hd := rfl) (hs := (by first | assumption | exact T1 | exact T2 | exact IT _ (by omega))) (hv := (by first | assumption | exact T5 | exact I0 _ (by omega))) (k := ?_)
  refine r_iload_n hm rfl (k := ?_)
  refine r_aald (hm := hm) (hf := rfl) (hs := (by first | assumption | exact T1 | exact T2 | exact IT _ (by omega))) (hkd := by decide) (kk := fr) (hi := by omega) (hn := (by omega)) (hv := (by first | assumption | exact T5 | exact I0 _ (by omega))) (k := ?_)
  refine r_astore_n hm rfl (k := ?_)
  refine r_iload_n hm rfl (k := ?_)
  refine r_istore hm rfl (k := ?_)
  suffices LP : ∀ (d i : Nat) (h1 : Hp), i + d = max fr to → fr ≤ i → ShR h h1 t (fun q => if fr ≤ q ∧ q < i then q + 1 else q) → RN 20 10 [some (.inr (.inr (some (t)))), some (.inl (fr : Int)), some (.inl (to : Int)), some (.inr (.inr (some (itm h t fr)))), some (.inl (i : Int))] [] h1 0 0 (fun v h2 => ShR h h2 t (shI fr to) ∧ v = none) from LP (max fr to - fr) fr _ (by omega) (Nat.le_refl _) ⟨rfl, rfl, rfl, fun _ _ _ => rfl, fun q hq => by dsimp only; rw [if_neg (by omega)]⟩
  clear g1 T1 T2 T3 T4 T5 T6 T7 IT I0
  refine fun d => Nat.strongRecOn d (fun d ih => ?_)
  intro i h1 hd hi S1
  have g1 := S1.gg ht g
  obtain ⟨T1, T2, T3, T4, T5, T6, T7⟩ := g1.tx ht
  have IT := fun q (hq : q < 60) => (g1.it ht (RQ.2.1 q hq).2).1
  have I0 := fun q (hq : q < 60) => (RQ.2.1 q hq).1
  refine r_iload hm rfl (k := ?_)
  refine r_iload_n hm rfl (k := ?_)
  refine r_icmp_ge (t := 38) hm rfl rfl (fun c13 => ?_) (fun c13 => ?_)
  · refine r_iload_n hm rfl (k := ?_)
    refine r_istore hm rfl (k := ?_)
    suffices LP : ∀ (d2 i : Nat) (h1 : Hp), i ≤ to + d2 → i ≤ fr → (to ≤ i ∨ i = fr) → ShR h h1 t (fun q => if fr ≤ q ∧ q < to then q + 1 else if i < q ∧ q ≤ fr then q - 1 else q) → RN 20 41 [some (.inr (.inr (some (t)))), some (.inl (fr : Int)), some (.inl (to : Int)), some (.inr (.inr (some (itm h t fr)))), some (.inl (i : Int))] [] h1 0 0 (fun v h2 => ShR h h2 t (shI fr to) ∧ v = none) from LP fr fr _ (by omega) (Nat.le_refl _) (Or.inr rfl) (S1.congr (fun q hq => by first | ((repeat' split) <;> omega) | (dsimp only; (repeat' split) <;> omega)))
    refine fun d2 => Nat.strongRecOn d2 (fun d2 ih2 => ?_)
    intro i h1 hd2 hi2 hi3 S1
    have g1 := S1.gg ht g
    obtain ⟨T1, T2, T3, T4, T5, T6, T7⟩ := g1.tx ht
    have IT := fun q (hq : q < 60) => (g1.it ht (RQ.2.1 q hq).2).1
    have I0 := fun q (hq : q < 60) => (RQ.2.1 q hq).1
    refine r_iload hm rfl (k := ?_)
    refine r_iload_n hm rfl (k := ?_)
    refine r_icmp_le (t := 69) hm rfl rfl (fun c44 => ?_) (fun c44 => ?_)
    · refine r_aload_n hm rfl (k := ?_)
      refine r_getR (hm := hm) (hf := rfl) (hd := rfl) (hs := (by first | assumption | exact T1 | exact T2 | exact IT _ (by omega))) (hv := (by first | assumption | exact T5 | exact I0 _ (by omega))) (k := ?_)
      refine r_iload_n hm rfl (k := ?_)
      refine r_aload_n hm rfl (k := ?_)
      refine r_aast (hm := hm) (hf := rfl) (hs := (by first | assumption | exact T1 | exact T2 | exact IT _ (by omega))) (hsb := (by first | assumption | exact T1 | exact T2 | exact IT _ (by omega))) (hkd := by decide) (kk := to) (hi := by omega) (hn := (by omega)) (k := ?_)
      refine r_return hm rfl rfl (Nat.le_of_ble_eq_true rfl) (Nat.le_of_ble_eq_true rfl) ?_
      exact ⟨(S1.put (i := to) (m9 := fr) (I0 fr (by omega)).symm).congr (fun q hq => by simp only [upf, shI]; (repeat' split) <;> omega), rfl⟩
    · refine r_aload_n hm rfl (k := ?_)
      refine r_getR (hm := hm) (hf := rfl) (hd := rfl) (hs := (by first | assumption | exact T1 | exact T2 | exact IT _ (by omega))) (hv := (by first | assumption | exact T5 | exact I0 _ (by omega))) (k := ?_)
      refine r_iload hm rfl (k := ?_)
      refine r_aload_n hm rfl (k := ?_)
      refine r_getR (hm := hm) (hf := rfl) (hd := rfl) (hs := (by first | assumption | exact T1 | exact T2 | exact IT _ (by omega))) (hv := (by first | assumption | exact T5 | exact I0 _ (by omega))) (k := ?_)
      refine r_iload hm rfl (k := ?_)
      refine r_iconst hm rfl (k := ?_)
      refine r_isub hm rfl (hr := (by omega)) (k := ?_)
      refine r_aald (hm := hm) (hf := rfl) (hs := (by first | assumption | exact T1 | exact T2 | exact IT _ (by omega))) (hkd := by decide) (kk := i - 1) (hi := by omega) (hn := (by omega)) (hv := ((S1.2.2.2.2 (i - 1) (by omega)).trans ((congrArg (h.2.2.1 (t + 1)) (show (if fr ≤ i - 1 ∧ i - 1 < to then i - 1 + 1 else if i < i - 1 ∧ i - 1 ≤ fr then i - 1 - 1 else i - 1) = i - 1 by rw [if_neg (by omega), if_neg (by omega)])).trans (I0 (i - 1) (by omega))))) (k := ?_)
      refine r_aast (hm := hm) (hf := rfl) (hs := (by first | assumption | exact T1 | exact T2 | exact IT _ (by omega))) (hsb := (by first | assumption | exact T1 | exact T2 | exact IT _ (by omega))) (hkd := by decide) (kk := i) (hi := by omega) (hn := (by omega)) (k := ?_)
      refine r_iinc hm rfl (hr := (by omega)) (k := ?_)
      refine r_goto (t := 41) hm rfl (k := ?_)
      have b9 := ih2 (d2 - 1) (by omega) (i - 1) (putR h1 (t + 1) i (some (itm h t (i - 1)))) (by omega) (by omega) (by omega) ((S1.put (i := i) (m9 := i - 1) (I0 (i - 1) (by omega)).symm).congr (fun q hq => by simp only [upf]; (repeat' split) <;> omega))
      rw [show (((i - 1 : Nat)) : Int) = (i : Int) + -1 by omega] at b9
      exact b9
  · refine r_aload_n hm rfl (k := ?_)
    refine r_getR (hm := hm) (hf := rfl) (hd := rfl) (hs := (by first | assumption | exact T1 | exact T2 | exact IT _ (by omega))) (hv := (by first | assumption | exact T5 | exact I0 _ (by omega))) (k := ?_)
    refine r_iload hm rfl (k := ?_)
    refine r_aload_n hm rfl (k := ?_)
    refine r_getR (hm := hm) (hf := rfl) (hd := rfl) (hs := (by first | assumption | exact T1 | exact T2 | exact IT _ (by omega))) (hv := (by first | assumption | exact T5 | exact I0 _ (by omega))) (k := ?_)
    refine r_iload hm rfl (k := ?_)
    refine r_iconst hm rfl (k := ?_)
    refine r_iadd hm rfl (hr := (by omega)) (k := ?_)
    refine r_aald (hm := hm) (hf := rfl) (hs := (by first | assumption | exact T1 | exact T2 | exact IT _ (by omega))) (hkd := by decide) (kk := i + 1) (hi := by omega) (hn := (by omega)) (hv := ((S1.2.2.2.2 (i + 1) (by omega)).trans ((congrArg (h.2.2.1 (t + 1)) (show (if fr ≤ i + 1 ∧ i + 1 < i then i + 1 + 1 else i + 1) = i + 1 by rw [if_neg (by omega)])).trans (I0 (i + 1) (by omega))))) (k := ?_)
    refine r_aast (hm := hm) (hf := rfl) (hs := (by first | assumption | exact T1 | exact T2 | exact IT _ (by omega))) (hsb := (by first | assumption | exact T1 | exact T2 | exact IT _ (by omega))) (hkd := by decide) (kk := i) (hi := by omega) (hn := (by omega)) (k := ?_)
    refine r_iinc hm rfl (hr := (by omega)) (k := ?_)
    refine r_goto (t := 10) hm rfl (k := ?_)
    refine ih (d - 1) (by omega) (i + 1) _ (by omega) (by omega) ((S1.put (i := i) (m9 := i + 1) (I0 (i + 1) (by omega)).symm).congr (fun q hq => ?_))
    simp only [upf]
    (repeat' split) <;> omega
theorem c_itBegin {h : Hp} {it : Nat} {nm kd ms : Int} (hs : h.1[it]? = some (3, 8)) : RN 19 0 [some (.inr (.inr (some (it)))), some (.inl nm), some (.inl kd), some (.inl ms)] [] h 0 0 (fun v h2 => h2 = putI (putI (putI (putI (putI h it 3 nm) it 4 kd) it 5 ms) it 6 (-1)) it 7 0 ∧ v = none) := by
  have hm : mrec 19 = some nM19 := rfl
  refine r_aload_n hm rfl (k := ?_)
  refine r_iload_n hm rfl (k := ?_)
  refine r_putI (hm := hm) (hf := rfl) (hd := rfl) (hs := (by exact hs)) (hfin := Or.inl rfl) (hz := fun q9 => absurd q9 (by decide)) (k := ?_)
  refine r_aload_n hm rfl (k := ?_)
  refine r_iload_n hm rfl (k := ?_)
  refine r_putI (hm := hm) (hf := rfl) (hd := rfl) (hs := (by exact hs)) (hfin := Or.inl rfl) (hz := fun q9 => absurd q9 (by decide)) (k := ?_)
  refine r_aload_n hm rfl (k := ?_)
  refine r_iload_n hm rfl (k := ?_)
  refine r_putI (hm := hm) (hf := rfl) (hd := rfl) (hs := (by exact hs)) (hfin := Or.inl rfl) (hz := fun q9 => absurd q9 (by decide)) (k := ?_)
  refine r_aload_n hm rfl (k := ?_)
  refine r_iconst hm rfl (k := ?_)
  refine r_putI (hm := hm) (hf := rfl) (hd := rfl) (hs := (by exact hs)) (hfin := Or.inl rfl) (hz := fun q9 => absurd q9 (by decide)) (k := ?_)
  refine r_aload_n hm rfl (k := ?_)
  refine r_iconst hm rfl (k := ?_)
  refine r_putI (hm := hm) (hf := rfl) (hd := rfl) (hs := (by exact hs)) (hfin := Or.inl rfl) (hz := fun q9 => absurd q9 (by decide)) (k := ?_)
  refine r_return hm rfl rfl (Nat.le_of_ble_eq_true rfl) (Nat.le_of_ble_eq_true rfl) ?_
  exact ⟨rfl, rfl⟩
theorem RepQ_ex {h : Hp} {t : Nat} {x : Tx} {it : Nat} {nm kd ms : Int} (RQ : RepQ h t x) (hn : x.1 < 60) (he : it = itm h t x.1) : RepQ (putI (putI (putI (putI (putI h it 3 nm) it 4 kd) it 5 ms) it 6 (-1)) it 7 0) t (exT x nm kd ms) := by
  subst he
  have rq := itm_rng RQ (i := x.1) (by omega)
  obtain ⟨R2, R3, R4, R5, R6, R7⟩ := id RQ
  refine RepQ.ch RQ (by show x.1 + 1 ≤ 60; omega) (fun i => rfl) (fun g i hg hi => ?_) (fun g i k hg hi hk => ?_) (fun k hk => ?_)
  · have hi2 : i < x.1 + 1 := hi
    show _ = if i = x.1 then (if g = 0 then nm else if g = 1 then kd else if g = 2 then ms else if g = 3 then -1 else 0) else x.2.1 g i
    by_cases d : i = x.1
    · rw [if_pos d, d]
      have : g = 0 ∨ g = 1 ∨ g = 2 ∨ g = 3 ∨ g = 4 := by omega
      rcases this with rfl | rfl | rfl | rfl | rfl <;> simp (disch := omega) only [putI_fne, putI_feq, upf_ne, upf_eq] <;> first | rfl | (simp; done)
    · rw [if_neg d]
      have := itm_sep RQ (i := i) (j := x.1) (by omega) (by omega) d
      simp (disch := omega) only [putI_fne, putI_feq, upf_ne, upf_eq]
      exact R5 g i hg (by omega)
  · have hi2 : i < x.1 + 1 := hi
    have hk2 : (k : Int) < if i = x.1 then (if (4 : Nat) = 0 then nm else if (4 : Nat) = 1 then kd else if (4 : Nat) = 2 then ms else if (4 : Nat) = 3 then -1 else 0) else x.2.1 4 i := hk
    by_cases d : i = x.1
    · rw [if_pos d] at hk2
      simp at hk2
      omega
    · rw [if_neg d] at hk2
      have := itm_sep RQ (i := i) (j := x.1) (by omega) (by omega) d
      simp (disch := omega) only [putI_fne, putI_feq, upf_ne, upf_eq]
      exact R6 g i k hg (by omega) hk2
  · simp (disch := omega) only [putI_fne, putI_feq, upf_ne, upf_eq]
    exact R7 k hk
set_option maxRecDepth 8000 in
theorem c_insert {L : Nat} {h : Hp} {t i : Nat} {x : Tx} {nm kd ms : Int} (g : GG L h) (ht : isT t) (hR : RepC h t x) (hn : x.1 < 60) (hi : i ≤ x.1) : RN 18 0 [some (.inr (.inr (some (t)))), some (.inl (i : Int)), some (.inl nm), some (.inl kd), some (.inl ms)] [] h 0 0 (fun v h2 => GG L h2 ∧ RepC h2 t (pmT (exT x nm kd ms) (shI x.1 i) (x.1 + 1)) ∧ (∀ a k, a ≠ t + 1 → h2.2.2.1 a k = h.2.2.1 a k) ∧ (∀ a k, a < t ∨ t + 244 ≤ a → h2.2.1 a k = h.2.1 a k) ∧ v = none) := by
  have hm : mrec 18 = some nM18 := rfl
  obtain ⟨R1, RQ⟩ := id hR
  have RQ : RepQ h t x := RQ
  obtain ⟨T1, T2, T3, T4, T5, T6, T7⟩ := g.tx ht
  have IT := fun q (hq : q < 60) => (g.it ht (RQ.2.1 q hq).2).1
  have I0 := fun q (hq : q < 60) => (RQ.2.1 q hq).1
  refine r_aload_n hm rfl (k := ?_)
  refine r_getI (hm := hm) (hf := rfl) (hd := rfl) (hs := (by first | assumption | exact T1 | exact T2 | exact IT _ (by omega))) (hv := (by first | assumption | exact T5 | exact I0 _ (by omega) | exact R1A | exact R1B)) (k := ?_)
  refine r_bipush hm rfl (k := ?_)
  refine r_icmp_ge (t := 56) hm rfl rfl (fun c6 => ?_) (fun c6 => ?_)
  · exfalso; omega
  · refine r_iload_n hm rfl (k := ?_)
    refine r_if_lt (t := 56) hm rfl rfl (fun c10 => ?_) (fun c10 => ?_)
    · exfalso; omega
    · refine r_iload_n hm rfl (k := ?_)
      refine r_aload_n hm rfl (k := ?_)
      refine r_getI (hm := hm) (hf := rfl) (hd := rfl) (hs := (by first | assumption | exact T1 | exact T2 | exact IT _ (by omega))) (hv := (by first | assumption | exact T5 | exact I0 _ (by omega) | exact R1A | exact R1B)) (k := ?_)
      refine r_icmp_gt (t := 56) hm rfl rfl (fun c18 => ?_) (fun c18 => ?_)
      · exfalso; omega
      · refine r_aload_n hm rfl (k := ?_)
        refine r_getR (hm := hm) (hf := rfl) (hd := rfl) (hs := (by first | assumption | exact T1 | exact T2 | exact IT _ (by omega))) (hv := (by first | assumption | exact T5 | exact I0 _ (by omega) | exact R1A | exact R1B)) (k := ?_)
        refine r_aload_n hm rfl (k := ?_)
        refine r_getI (hm := hm) (hf := rfl) (hd := rfl) (hs := (by first | assumption | exact T1 | exact T2 | exact IT _ (by omega))) (hv := (by first | assumption | exact T5 | exact I0 _ (by omega) | exact R1A | exact R1B)) (k := ?_)
        refine r_aald (hm := hm) (hf := rfl) (hs := (by first | assumption | exact T1 | exact T2 | exact IT _ (by omega))) (hkd := by decide) (kk := x.1) (hi := by omega) (hn := (by omega)) (hv := (by first | assumption | exact T5 | exact I0 _ (by omega) | exact R1A | exact R1B)) (k := ?_)
        refine r_iload_n hm rfl (k := ?_)
        refine r_iload_n hm rfl (k := ?_)
        refine r_iload hm rfl (k := ?_)
        refine r_callv (j2 := 19) hm rfl rfl rfl rfl rfl rfl (by first | assumption | exact T1 | exact T2 | exact IT _ (by omega)) (Nat.le_of_ble_eq_true rfl) (Nat.le_of_ble_eq_true rfl) rfl ⟨Nat.le_of_ble_eq_true rfl, Nat.le_of_ble_eq_true rfl, Nat.le_of_ble_eq_true rfl, Nat.le_of_ble_eq_true rfl, Nat.le_of_ble_eq_true rfl⟩ rfl (c_itBegin (IT _ (by omega))) (fun v9 h9 p9 => ?_)
        obtain ⟨e1, e2⟩ := p9
        subst e2
        have rq := itm_rng RQ (i := x.1) (by omega)
        have QA : RepQ h9 t (exT x nm kd ms) := by rw [e1]; exact RepQ_ex RQ (by omega) rfl
        have SA : Sm (fun a k => a = itm h t x.1 ∧ 3 ≤ k) h h9 := by rw [e1]; exact Sm.put (Sm.put (Sm.put (Sm.put (Sm.put Sm.refl (by omega)) (by omega)) (by omega)) (by omega)) (by omega)
        clear e1
        have gA := SA.gg g
        obtain ⟨T1, T2, T3, T4, T5, T6, T7⟩ := gA.tx ht
        have R1A : h9.2.1 t 2 = (x.1 : Int) := (SA.2.2 _ _ (by omega)).trans R1
        have qS := c_shift gA ht QA (fr := x.1) (to := i) (by omega) (by omega)
        change RN 18 37 _ _ _ 0 0 _
        dsimp only [Option.toList, List.nil_append]
        refine r_aload_n hm rfl (k := ?_)
        refine r_aload_n hm rfl (k := ?_)
        refine r_getI (hm := hm) (hf := rfl) (hd := rfl) (hs := (by first | assumption | exact T1 | exact T2 | exact IT _ (by omega))) (hv := (by first | assumption | exact T5 | exact I0 _ (by omega) | exact R1A | exact R1B)) (k := ?_)
        refine r_iload_n hm rfl (k := ?_)
        refine r_callv (j2 := 20) hm rfl rfl rfl rfl rfl rfl (by first | assumption | exact T1 | exact T2 | exact IT _ (by omega)) (Nat.le_of_ble_eq_true rfl) (Nat.le_of_ble_eq_true rfl) rfl ⟨Nat.le_of_ble_eq_true rfl, Nat.le_of_ble_eq_true rfl, Nat.le_of_ble_eq_true rfl, Nat.le_of_ble_eq_true rfl, Nat.le_of_ble_eq_true rfl⟩ rfl (qS) (fun v9 hB p9 => ?_)
        obtain ⟨SB, e1⟩ := p9
        subst e1
        have gB := SB.gg ht gA
        have QB := SB.rep QA (n := x.1 + 1) (fun q hq => shI_lt (by omega) (by omega) hq) (fun a b => shI_inj) (by omega) (fun q hq => shI_lt (by show x.1 < x.1 + 1; omega) (by show i < x.1 + 1; omega) hq)
        obtain ⟨T1, T2, T3, T4, T5, T6, T7⟩ := gB.tx ht
        have R1B : hB.2.1 t 2 = (x.1 : Int) := by rw [SB.2.1]; exact R1A
        change RN 18 46 _ _ _ 0 0 _
        dsimp only [Option.toList, List.nil_append]
        refine r_aload_n hm rfl (k := ?_)
        refine r_dup hm rfl (k := ?_)
        refine r_getI (hm := hm) (hf := rfl) (hd := rfl) (hs := (by first | assumption | exact T1 | exact T2 | exact IT _ (by omega))) (hv := (by first | assumption | exact T5 | exact I0 _ (by omega) | exact R1A | exact R1B)) (k := ?_)
        refine r_iconst hm rfl (k := ?_)
        refine r_iadd hm rfl (hr := (by omega)) (k := ?_)
        refine r_putI (hm := hm) (hf := rfl) (hd := rfl) (hs := (by first | assumption | exact T1 | exact T2 | exact IT _ (by omega))) (hfin := Or.inl rfl) (hz := fun q9 => absurd q9 (by decide)) (k := ?_)
        refine r_return hm rfl rfl (Nat.le_of_ble_eq_true rfl) (Nat.le_of_ble_eq_true rfl) ?_
        refine ⟨⟨gB.1, gB.2⟩, ⟨putI_eq, ?_⟩, fun a k e => ?_, fun a k e => ?_, rfl⟩
        · have rr : ∀ q, q < 60 → t + 4 ≤ itm hB t q ∧ itm hB t q + 3 < t + 244 := fun q hq => itm_rng QB hq
          exact RepQ.ch QB QB.1 (fun q => rfl) (fun f q hf hq => by have q9 : q < x.1 + 1 := hq; have := rr q (by omega); rw [putI_ne (by omega)]; exact QB.2.2.2.1 f q hf hq) (fun f q k hf hq hk => by have q9 : q < x.1 + 1 := hq; have := rr q (by omega); rw [putI_ne (by omega)]; exact QB.2.2.2.2.1 f q k hf hq hk) (fun k hk => by rw [putI_ne (by omega)]; exact QB.2.2.2.2.2 k hk)
        · show hB.2.2.1 a k = _
          rw [SB.2.2.2.1 a k e, SA.2.1]
        · rw [putI_ne (by omega), SB.2.1, SA.2.2 a k (by omega)]
set_option maxRecDepth 8000 in
theorem c_takeOut {L : Nat} {h : Hp} {t i : Nat} {x : Tx} (g : GG L h) (ht : isT t) (hR : RepC h t x) (hi : i < x.1) : RN 23 0 [some (.inr (.inr (some (t)))), some (.inl (i : Int))] [] h 0 0 (fun v h2 => GG L h2 ∧ RepC h2 t (pmT x (shI i (x.1 - 1)) (x.1 - 1)) ∧ (∀ a k, a ≠ t + 1 → h2.2.2.1 a k = h.2.2.1 a k) ∧ (∀ a k, a < t ∨ t + 244 ≤ a → h2.2.1 a k = h.2.1 a k) ∧ v = none) := by
  have hm : mrec 23 = some nM23 := rfl
  obtain ⟨R1, RQ⟩ := id hR
  have RQ : RepQ h t x := RQ
  have n60 := RQ.1
  obtain ⟨T1, T2, T3, T4, T5, T6, T7⟩ := g.tx ht
  refine r_aload_n hm rfl (k := ?_)
  refine r_iload_n hm rfl (k := ?_)
  refine r_callv (j2 := 22) hm rfl rfl rfl rfl rfl rfl (by first | assumption | exact T1 | exact T2) (Nat.le_of_ble_eq_true rfl) (Nat.le_of_ble_eq_true rfl) rfl ⟨Nat.le_of_ble_eq_true rfl, Nat.le_of_ble_eq_true rfl, Nat.le_of_ble_eq_true rfl, Nat.le_of_ble_eq_true rfl, Nat.le_of_ble_eq_true rfl⟩ rfl (c_has g ht hR) (fun v9 h9 p9 => ?_)
  obtain ⟨e1, e2⟩ := p9
  subst e2
  replace e1 := e1.symm
  subst e1
  obtain ⟨b9, eb9, hb9⟩ := ite01 (p := 0 ≤ (i : Int) ∧ (i : Int) < (x.1 : Int))
  rw [eb9]
  change RN 23 5 _ _ _ 0 0 _
  dsimp only [Option.toList, List.cons_append, List.nil_append]
  refine r_if_eq (t := 29) hm rfl rfl (fun c5 => ?_) (fun c5 => ?_)
  · exfalso; omega
  · refine r_aload_n hm rfl (k := ?_)
    refine r_iload_n hm rfl (k := ?_)
    refine r_aload_n hm rfl (k := ?_)
    refine r_getI (hm := hm) (hf := rfl) (hd := rfl) (hs := (by first | assumption | exact T1 | exact T2)) (hv := (by first | assumption | exact T5 | exact R1B)) (k := ?_)
    refine r_iconst hm rfl (k := ?_)
    refine r_isub hm rfl (hr := (by omega)) (k := ?_)
    have qS := c_shift g ht RQ (fr := i) (to := x.1 - 1) (by omega) (by omega)
    rw [show (((x.1 - 1 : Nat)) : Int) = (x.1 : Int) - 1 by omega] at qS
    refine r_callv (j2 := 20) hm rfl rfl rfl rfl rfl rfl (by first | assumption | exact T1 | exact T2) (Nat.le_of_ble_eq_true rfl) (Nat.le_of_ble_eq_true rfl) rfl ⟨Nat.le_of_ble_eq_true rfl, Nat.le_of_ble_eq_true rfl, Nat.le_of_ble_eq_true rfl, Nat.le_of_ble_eq_true rfl, Nat.le_of_ble_eq_true rfl⟩ rfl (qS) (fun v9 hB p9 => ?_)
    obtain ⟨SB, e1⟩ := p9
    subst e1
    have gB := SB.gg ht g
    have QB := SB.rep RQ (n := x.1 - 1) (fun q hq => shI_lt (by omega) (by omega) hq) (fun a b => shI_inj) (by omega) (fun q hq => shI_lt hi (by omega) (by omega))
    obtain ⟨T1, T2, T3, T4, T5, T6, T7⟩ := gB.tx ht
    have R1B : hB.2.1 t 2 = (x.1 : Int) := by rw [SB.2.1]; exact R1
    change RN 23 19 _ _ _ 0 0 _
    dsimp only [Option.toList, List.nil_append]
    refine r_aload_n hm rfl (k := ?_)
    refine r_dup hm rfl (k := ?_)
    refine r_getI (hm := hm) (hf := rfl) (hd := rfl) (hs := (by first | assumption | exact T1 | exact T2)) (hv := (by first | assumption | exact T5 | exact R1B)) (k := ?_)
    refine r_iconst hm rfl (k := ?_)
    refine r_isub hm rfl (hr := (by omega)) (k := ?_)
    refine r_putI (hm := hm) (hf := rfl) (hd := rfl) (hs := (by first | assumption | exact T1 | exact T2)) (hfin := Or.inl rfl) (hz := fun q9 => absurd q9 (by decide)) (k := ?_)
    refine r_return hm rfl rfl (Nat.le_of_ble_eq_true rfl) (Nat.le_of_ble_eq_true rfl) ?_
    refine ⟨⟨gB.1, gB.2⟩, ⟨?_, ?_⟩, fun a k e => ?_, fun a k e => ?_, rfl⟩
    · rw [putI_eq]
      show (x.1 : Int) - 1 = ((x.1 - 1 : Nat) : Int)
      omega
    · have rr : ∀ q, q < 60 → t + 4 ≤ itm hB t q ∧ itm hB t q + 3 < t + 244 := fun q hq => itm_rng QB hq
      exact RepQ.ch QB QB.1 (fun q => rfl) (fun f q hf hq => by have q9 : q < x.1 - 1 := hq; have := rr q (by omega); rw [putI_ne (by omega)]; exact QB.2.2.2.1 f q hf hq) (fun f q k hf hq hk => by have q9 : q < x.1 - 1 := hq; have := rr q (by omega); rw [putI_ne (by omega)]; exact QB.2.2.2.2.1 f q k hf hq hk) (fun k hk => by rw [putI_ne (by omega)]; exact QB.2.2.2.2.2 k hk)
    · show hB.2.2.1 a k = _
      rw [SB.2.2.2.1 a k e]
    · rw [putI_ne (by omega), SB.2.1]
