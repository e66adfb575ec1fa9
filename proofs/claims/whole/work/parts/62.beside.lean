/-! beside: the class -/
def lkn (x y : Tx) (i j : Nat) : Bool := decide (nOwn x i = nOwn y j ∧ nRow x i 0 = nRow y j 0 ∧ nRow x i 1 = nRow y j 1 ∧ nRow x i 2 = nRow y j 2 ∧ nRow x i 3 = nRow y j 3)
def nmn (x : Tx) (i k : Nat) : Int := if mnt x i k = -1 then -1 else x.2.1 0 (mnt x i k).toNat
def ltF (x : Tx) (H : Int) : LT := ltR x H (fin x H)
def fpF (x : Tx) (H : Int) : Nat → Int := (psf x H (ltF x H)).2.2.1
/-- piece k of item i, of item j, are both calls and say or mean otherwise -/
def cgk (x y : Tx) (H1 H2 : Int) (w : Int) (i j k : Nat) : Bool := decide ((k : Int) < y.2.1 4 j ∧ x.2.2.1 0 i k = 1 ∧ y.2.2.1 0 j k = 1 ∧ (if w = 3 then ltF x H1 i k ≠ ltF y H2 j k else nmn x i k ≠ nmn y j k))
def cgc (x y : Tx) (H1 H2 : Int) (w : Int) (i j : Nat) : Int := sm (fun k => if cgk x y H1 H2 w i j k = true then (1 : Int) else 0) 0 (pcs x i)
def pnm (y : Tx) (n : Int) : Int := fi (fun k => y.2.1 0 k == n) 0 y.1
def cgi (x y : Tx) (H1 H2 : Int) (w : Int) (i j : Nat) : Int := if w = 0 then 0 else if w = 1 then (if lkn x y i j = true then 0 else 1) else if w = 2 then (if fpF x H1 i = fpF y H2 j then 0 else 1) else cgc x y H1 H2 w i j
def ibo (x y : Tx) (i : Nat) : Int := if pnm y (x.2.1 0 i) = -1 then 0 else 1
def cga (x y : Tx) (H1 H2 : Int) (w : Int) (i : Nat) : Int := if pnm y (x.2.1 0 i) = -1 then 0 else cgi x y H1 H2 w i (pnm y (x.2.1 0 i)).toNat
def bsd (x y : Tx) (H1 H2 : Int) (w : Int) : Int := if w = 0 then (x.1 : Int) + (y.1 : Int) - 2 * sm (ibo x y) 0 x.1 else sm (cga x y H1 H2 w) 0 x.1
def aBeside (S : St) (v w : Int) : Int := if ¬ ((0 ≤ v ∧ v ≤ 2) ∧ S.2.2.1 v.toNat = 1) then -1001 else if ¬ (0 ≤ w ∧ w ≤ 4) then -1002 else bsd S.1 (S.2.1 v.toNat) (S.1.2.2.2 0) ((S.2.1 v.toNat).2.2.2 0) w
theorem pnm_rng {y : Tx} {n : Int} : pnm y n = -1 ∨ (0 ≤ pnm y n ∧ pnm y n < y.1) := by
  unfold pnm
  have := fi_rng (p := fun k => y.2.1 0 k == n) y.1 0
  omega
theorem cgc_rng {x y : Tx} {H1 H2 w : Int} {i j : Nat} (hok : okTx x) (hi : i < x.1) : 0 ≤ cgc x y H1 H2 w i j ∧ cgc x y H1 H2 w i j ≤ 20 := by
  have h1 := sm_le (f := fun k => if cgk x y H1 H2 w i j k = true then (1 : Int) else 0) (B := 1) (fun k => by split <;> omega) (pcs x i) 0
  have h2 := pcs_eq hok hi
  unfold cgc
  omega
theorem cgi_rng {x y : Tx} {H1 H2 w : Int} {i j : Nat} (hok : okTx x) (hi : i < x.1) : 0 ≤ cgi x y H1 H2 w i j ∧ cgi x y H1 H2 w i j ≤ 20 := by
  have := cgc_rng (y := y) (H1 := H1) (H2 := H2) (w := w) (j := j) hok hi
  unfold cgi
  (repeat' split) <;> omega
set_option maxRecDepth 8000 in
theorem c_isLikeN {L : Nat} {h : Hp} {n1 n2 i j : Nat} {x y : Tx} (g : GG L h) (hN1 : isN n1) (hN2 : isN n2) (nx : NmR h n1 x x.1) (ny : NmR h n2 y y.1) (hi : i < x.1) (hj : j < y.1) (hx60 : x.1 ≤ 60) (hy60 : y.1 ≤ 60) : RN 128 0 [some (.inr (.inr (some (n1)))), some (.inl (i : Int)), some (.inr (.inr (some (n2)))), some (.inl (j : Int)), none] [] h 0 0 (fun v h2 => h2 = h ∧ v = some (.inl (if lkn x y i j = true then 1 else 0))) := by
  have hm : mrec 128 = some nM128 := rfl
  obtain ⟨A0, A1, A2, A3, A4, A5, A6, A7, A8, A9, A10, A28⟩ := g.nm hN1
  obtain ⟨B0, B1, B2, B3, B4, B5, B6, B7, B8, B9, B10, B28⟩ := g.nm hN2
  refine r_iconst hm rfl (k := ?_)
  refine r_istore hm rfl (k := ?_)
  suffices LP : ∀ (d l : Nat), l + d = 5 → 1 ≤ l → (∀ k, k + 1 < l → nRow x i k = nRow y j k) → RN 128 3 [some (.inr (.inr (some (n1)))), some (.inl (i : Int)), some (.inr (.inr (some (n2)))), some (.inl (j : Int)), some (.inl (l : Int))] [] h 0 0 (fun v h2 => h2 = h ∧ v = some (.inl (if lkn x y i j = true then 1 else 0))) from LP 4 1 (by omega) (by omega) (fun k hk => by omega)
  refine fun d => Nat.strongRecOn d (fun d ih => ?_)
  intro l hd hl1 eq0
  refine r_iload hm rfl (k := ?_)
  refine r_iconst hm rfl (k := ?_)
  refine r_icmp_gt (t := 34) hm rfl rfl (fun c6 => ?_) (fun c6 => ?_)
  · refine r_aload_n hm rfl (k := ?_)
    refine r_getR (hm := hm) (hf := rfl) (hd := rfl) (hs := (by first | assumption | exact A0 | exact B0 | exact A2 | exact B2)) (hv := (by first | exact A7 | exact B7 | exact (nx i hi).2.1 | exact (ny j hj).2.1)) (k := ?_)
    refine r_iload_n hm rfl (k := ?_)
    refine r_iald (hm := hm) (hf := rfl) (hs := (by first | assumption | exact A0 | exact B0 | exact A2 | exact B2)) (hi := rfl) (hn := (by omega)) (hv := (by first | exact A7 | exact B7 | exact (nx i hi).2.1 | exact (ny j hj).2.1)) (k := ?_)
    refine r_aload_n hm rfl (k := ?_)
    refine r_getR (hm := hm) (hf := rfl) (hd := rfl) (hs := (by first | assumption | exact A0 | exact B0 | exact A2 | exact B2)) (hv := (by first | exact A7 | exact B7 | exact (nx i hi).2.1 | exact (ny j hj).2.1)) (k := ?_)
    refine r_iload_n hm rfl (k := ?_)
    refine r_iald (hm := hm) (hf := rfl) (hs := (by first | assumption | exact A0 | exact B0 | exact A2 | exact B2)) (hi := rfl) (hn := (by omega)) (hv := (by first | exact A7 | exact B7 | exact (nx i hi).2.1 | exact (ny j hj).2.1)) (k := ?_)
    refine r_icmp_ne (t := 53) hm rfl rfl (fun c46 => ?_) (fun c46 => ?_)
    · refine r_iconst hm rfl (k := ?_)
      refine r_ireturn hm rfl rfl (by first | rfl | decide) (Nat.le_of_ble_eq_true rfl) (Nat.le_of_ble_eq_true rfl) ?_
      refine ⟨rfl, ?_⟩
      have e0 := eq0 0 (by omega)
      have e1 := eq0 1 (by omega)
      have e2 := eq0 2 (by omega)
      have e3 := eq0 3 (by omega)
      unfold lkn
      rw [if_neg (by rw [decide_eq_true_eq]; omega)]
    · refine r_iconst hm rfl (k := ?_)
      refine r_goto (t := 54) hm rfl (k := ?_)
      refine r_ireturn hm rfl rfl (by first | rfl | decide) (Nat.le_of_ble_eq_true rfl) (Nat.le_of_ble_eq_true rfl) ?_
      refine ⟨rfl, ?_⟩
      have e0 := eq0 0 (by omega)
      have e1 := eq0 1 (by omega)
      have e2 := eq0 2 (by omega)
      have e3 := eq0 3 (by omega)
      unfold lkn
      rw [if_pos (by rw [decide_eq_true_eq]; omega)]
  · have qa := c_countOf g hN1 (i := i) (k := l) (by omega) (by omega) (by omega)
    have qb := c_countOf g hN2 (i := j) (k := l) (by omega) (by omega) (by omega)
    rw [(nx i hi).2.2.2 (l - 1) (by omega)] at qa
    rw [(ny j hj).2.2.2 (l - 1) (by omega)] at qb
    refine r_aload_n hm rfl (k := ?_)
    refine r_iload_n hm rfl (k := ?_)
    refine r_iload hm rfl (k := ?_)
    refine r_callv (j2 := 48) hm rfl rfl rfl rfl rfl rfl (by first | assumption | exact A0 | exact B0 | exact A2 | exact B2) (Nat.le_of_ble_eq_true rfl) (Nat.le_of_ble_eq_true rfl) rfl ⟨Nat.le_of_ble_eq_true rfl, Nat.le_of_ble_eq_true rfl, Nat.le_of_ble_eq_true rfl, Nat.le_of_ble_eq_true rfl, Nat.le_of_ble_eq_true rfl⟩ rfl (qa) (fun v9 h9 p9 => ?_)
    obtain ⟨e1, e2⟩ := p9
    subst e2
    replace e1 := e1.symm
    subst e1
    change RN 128 16 _ _ _ 0 0 _
    dsimp only [Option.toList, List.cons_append, List.nil_append]
    refine r_aload_n hm rfl (k := ?_)
    refine r_iload_n hm rfl (k := ?_)
    refine r_iload hm rfl (k := ?_)
    refine r_callv (j2 := 48) hm rfl rfl rfl rfl rfl rfl (by first | assumption | exact A0 | exact B0 | exact A2 | exact B2) (Nat.le_of_ble_eq_true rfl) (Nat.le_of_ble_eq_true rfl) rfl ⟨Nat.le_of_ble_eq_true rfl, Nat.le_of_ble_eq_true rfl, Nat.le_of_ble_eq_true rfl, Nat.le_of_ble_eq_true rfl, Nat.le_of_ble_eq_true rfl⟩ rfl (qb) (fun v9 h9 p9 => ?_)
    obtain ⟨e1, e2⟩ := p9
    subst e2
    replace e1 := e1.symm
    subst e1
    change RN 128 23 _ _ _ 0 0 _
    dsimp only [Option.toList, List.cons_append, List.nil_append]
    refine r_icmp_eq (t := 28) hm rfl rfl (fun c23 => ?_) (fun c23 => ?_)
    · refine r_iinc hm rfl (hr := (by omega)) (k := ?_)
      refine r_goto (t := 3) hm rfl (k := ?_)
      refine ih (d - 1) (by omega) (l + 1) (by omega) (by omega) (fun k hk => ?_)
      by_cases ek : k + 1 < l
      · exact eq0 k ek
      · rw [show k = l - 1 by omega]; omega
    · refine r_iconst hm rfl (k := ?_)
      refine r_ireturn hm rfl rfl (by first | rfl | decide) (Nat.le_of_ble_eq_true rfl) (Nat.le_of_ble_eq_true rfl) ?_
      refine ⟨rfl, ?_⟩
      rw [if_neg (fun z => ?_)]
      unfold lkn at z
      rw [decide_eq_true_eq] at z
      have hl4 : l = 1 ∨ l = 2 ∨ l = 3 ∨ l = 4 := by omega
      rcases hl4 with rfl | rfl | rfl | rfl <;> simp at c23 <;> omega
theorem c_nameMeant {L : Nat} {h : Hp} {s t i k : Nat} {x : Tx} {H : Int} (g : GG L h) (hS : isS s) (ht : isT t) (hR : RepC h t x) (hok : okTx x) (yS : SetC h s t x H) (hi : i < x.1) (hk : k < pcs x i) : RN 130 0 [some (.inr (.inr (some (s)))), some (.inl (i : Int)), some (.inl (k : Int)), none] [] h 0 0 (fun v h2 => h2 = h ∧ v = some (.inl (nmn x i k))) := by
  have hm : mrec 130 = some nM130 := rfl
  have n60 := hok.1
  obtain ⟨ep, ep2⟩ := pcs_eq hok hi
  have hf := fst_le hok (i + 1) (by omega)
  have hf2 : fst x (i + 1) = fst x i + pcs x i := rfl
  have hmr := @mnt_rng x i k
  obtain ⟨y8, y9, y10, y11, y20, yP, yL, yF9, yl, yn, ym9, yN⟩ := id yS
  have yF := yF9 i hi
  have ym := ym9.1 i k hi hk
  obtain ⟨G1, G2, G8, G9, G10, G11, G12, G13, K0, K1, K2, K3, K4, K5, K6, S28, G21⟩ := g.ly hS
  obtain ⟨Z0, Z14, Z17, Z20, Z21, Z22, Z23, Z24, W0, W1, W2, W3, W4, W5, W6, W7, Y2⟩ := g.st hS
  obtain ⟨T1, T2, T3, T4, T5, T6, T7⟩ := g.tx ht
  refine r_aload_n hm rfl (k := ?_)
  refine r_getR (hm := hm) (hf := rfl) (hd := rfl) (hs := (by first | assumption | exact Z0 | exact G1 | exact G8 | exact T1 | exact T2 | exact IT)) (hv := (by first | assumption | exact W0 | exact W7 | exact K1 | exact yF | exact ym | exact T5 | exact I0 | exact F0)) (k := ?_)
  refine r_aload_n hm rfl (k := ?_)
  refine r_getR (hm := hm) (hf := rfl) (hd := rfl) (hs := (by first | assumption | exact Z0 | exact G1 | exact G8 | exact T1 | exact T2 | exact IT)) (hv := (by first | assumption | exact W0 | exact W7 | exact K1 | exact yF | exact ym | exact T5 | exact I0 | exact F0)) (k := ?_)
  refine r_getR (hm := hm) (hf := rfl) (hd := rfl) (hs := (by first | assumption | exact Z0 | exact G1 | exact G8 | exact T1 | exact T2 | exact IT)) (hv := (by first | assumption | exact W0 | exact W7 | exact K1 | exact yF | exact ym | exact T5 | exact I0 | exact F0)) (k := ?_)
  refine r_iload_n hm rfl (k := ?_)
  refine r_iald (hm := hm) (hf := rfl) (hs := (by first | assumption | exact Z0 | exact G1 | exact G8 | exact T1 | exact T2 | exact IT)) (hi := rfl) (hn := (by omega)) (hv := (by first | assumption | exact W0 | exact W7 | exact K1 | exact yF | exact ym | exact T5 | exact I0 | exact F0)) (k := ?_)
  refine r_iload_n hm rfl (k := ?_)
  refine r_iadd hm rfl (hr := (by omega)) (k := ?_)
  refine r_iald (hm := hm) (hf := rfl) (hs := (by first | assumption | exact Z0 | exact G1 | exact G8 | exact T1 | exact T2 | exact IT)) (kk := fst x i + k) (hi := by omega) (hn := (by omega)) (hv := (by first | assumption | exact W0 | exact W7 | exact K1 | exact yF | exact ym | exact T5 | exact I0 | exact F0)) (k := ?_)
  refine r_istore_n hm rfl (k := ?_)
  refine r_iload_n hm rfl (k := ?_)
  refine r_iconst hm rfl (k := ?_)
  refine r_icmp_ne (t := 26) hm rfl rfl (fun c19 => ?_) (fun c19 => ?_)
  · have I0 := (hR.2.2.1 (mnt x i k).toNat (by omega)).1
    have IT := (g.it ht (hR.2.2.1 (mnt x i k).toNat (by omega)).2).1
    have F0 := hR.2.2.2.2.1 0 (mnt x i k).toNat (by omega) (by omega)
    refine r_aload_n hm rfl (k := ?_)
    refine r_getR (hm := hm) (hf := rfl) (hd := rfl) (hs := (by first | assumption | exact Z0 | exact G1 | exact G8 | exact T1 | exact T2 | exact IT)) (hv := (by first | assumption | exact W0 | exact W7 | exact K1 | exact yF | exact ym | exact T5 | exact I0 | exact F0)) (k := ?_)
    refine r_getR (hm := hm) (hf := rfl) (hd := rfl) (hs := (by first | assumption | exact Z0 | exact G1 | exact G8 | exact T1 | exact T2 | exact IT)) (hv := (by first | assumption | exact W0 | exact W7 | exact K1 | exact yF | exact ym | exact T5 | exact I0 | exact F0)) (k := ?_)
    refine r_iload_n hm rfl (k := ?_)
    refine r_aald (hm := hm) (hf := rfl) (hs := (by first | assumption | exact Z0 | exact G1 | exact G8 | exact T1 | exact T2 | exact IT)) (hkd := by decide) (kk := (mnt x i k).toNat) (hi := by omega) (hn := (by omega)) (hv := (by first | assumption | exact W0 | exact W7 | exact K1 | exact yF | exact ym | exact T5 | exact I0 | exact F0)) (k := ?_)
    refine r_getI (hm := hm) (hf := rfl) (hd := rfl) (hs := (by first | assumption | exact Z0 | exact G1 | exact G8 | exact T1 | exact T2 | exact IT)) (hv := (by first | assumption | exact W0 | exact W7 | exact K1 | exact yF | exact ym | exact T5 | exact I0 | exact F0)) (k := ?_)
    refine r_ireturn hm rfl rfl (by rfl) (Nat.le_of_ble_eq_true rfl) (Nat.le_of_ble_eq_true rfl) ?_
    exact ⟨rfl, by unfold nmn; first | (rw [if_pos (by omega)]; done) | (rw [if_neg (by omega)]; done)⟩
  · refine r_iconst hm rfl (k := ?_)
    refine r_goto (t := 38) hm rfl (k := ?_)
    refine r_ireturn hm rfl rfl (by rfl) (Nat.le_of_ble_eq_true rfl) (Nat.le_of_ble_eq_true rfl) ?_
    exact ⟨rfl, by unfold nmn; first | (rw [if_pos (by omega)]; done) | (rw [if_neg (by omega)]; done)⟩
set_option maxRecDepth 8000 in
theorem c_chgCalls {L : Nat} {h : Hp} {s1 s2 t1 t2 : Nat} {x y : Tx} {H1 H2 : Int} (g : GG L h) (hS1 : isS s1) (hS2 : isS s2) (ht1 : isT t1) (ht2 : isT t2) (hx : RepC h t1 x) (hy : RepC h t2 y) (okx : okTx x) (oky : okTx y) (yx : SetC h s1 t1 x H1) (yy : SetC h s2 t2 y H2) {i j : Nat} {w : Int} (hi : i < x.1) (hj : j < y.1) : RN 129 0 [some (.inr (.inr (some (s1)))), some (.inl (i : Int)), some (.inr (.inr (some (s2)))), some (.inl (j : Int)), some (.inl w), none, none, none, none, none] [] h 0 0 (fun v h2 => h2 = h ∧ v = some (.inl (cgc x y H1 H2 w i j))) := by
  have hm : mrec 129 = some nM129 := rfl
  have n60 := okx.1
  have m60 := oky.1
  obtain ⟨ep, ep2⟩ := pcs_eq okx hi
  have Z0 := (g.st hS1).1
  have ZZ0 := (g.st hS2).1
  obtain ⟨T1, T2, T3, T4, T5, T6, T7⟩ := g.tx ht1
  obtain ⟨U1, U2, U3, U4, U5, U6, U7⟩ := g.tx ht2
  have RX := (hx.2.2.1 i (by omega)).1
  have RY := (hy.2.2.1 j (by omega)).1
  obtain ⟨IX, IX1, -, -, PX0, -, -, -⟩ := g.it ht1 (hx.2.2.1 i (by omega)).2
  obtain ⟨IY, IY1, -, -, PY0, -, -, -⟩ := g.it ht2 (hy.2.2.1 j (by omega)).2
  have FX := hx.2.2.2.2.1 4 i (by omega) hi
  have FY := hy.2.2.2.2.1 4 j (by omega) hj
  refine r_aload_n hm rfl (k := ?_)
  refine r_getR (hm := hm) (hf := rfl) (hd := rfl) (hs := (by first | assumption | exact Z0 | exact ZZ0 | exact T1 | exact T2 | exact U1 | exact U2 | exact IX | exact IY | exact IX1 | exact IY1)) (hv := (by first | exact yx.1 | exact yy.1 | exact T5 | exact U5 | exact RX | exact RY | exact FX | exact FY | exact PX0 | exact PY0 | exact hx.2.2.2.2.2.1 0 i k (by omega) hi (by omega) | exact hy.2.2.2.2.2.1 0 j k (by omega) hj (by omega))) (k := ?_)
  refine r_getR (hm := hm) (hf := rfl) (hd := rfl) (hs := (by first | assumption | exact Z0 | exact ZZ0 | exact T1 | exact T2 | exact U1 | exact U2 | exact IX | exact IY | exact IX1 | exact IY1)) (hv := (by first | exact yx.1 | exact yy.1 | exact T5 | exact U5 | exact RX | exact RY | exact FX | exact FY | exact PX0 | exact PY0 | exact hx.2.2.2.2.2.1 0 i k (by omega) hi (by omega) | exact hy.2.2.2.2.2.1 0 j k (by omega) hj (by omega))) (k := ?_)
  refine r_iload_n hm rfl (k := ?_)
  refine r_aald (hm := hm) (hf := rfl) (hs := (by first | assumption | exact Z0 | exact ZZ0 | exact T1 | exact T2 | exact U1 | exact U2 | exact IX | exact IY | exact IX1 | exact IY1)) (hkd := by decide) (hi := rfl) (hn := (by omega)) (hv := (by first | exact yx.1 | exact yy.1 | exact T5 | exact U5 | exact RX | exact RY | exact FX | exact FY | exact PX0 | exact PY0 | exact hx.2.2.2.2.2.1 0 i k (by omega) hi (by omega) | exact hy.2.2.2.2.2.1 0 j k (by omega) hj (by omega))) (k := ?_)
  refine r_astore hm rfl (k := ?_)
  refine r_aload_n hm rfl (k := ?_)
  refine r_getR (hm := hm) (hf := rfl) (hd := rfl) (hs := (by first | assumption | exact Z0 | exact ZZ0 | exact T1 | exact T2 | exact U1 | exact U2 | exact IX | exact IY | exact IX1 | exact IY1)) (hv := (by first | exact yx.1 | exact yy.1 | exact T5 | exact U5 | exact RX | exact RY | exact FX | exact FY | exact PX0 | exact PY0 | exact hx.2.2.2.2.2.1 0 i k (by omega) hi (by omega) | exact hy.2.2.2.2.2.1 0 j k (by omega) hj (by omega))) (k := ?_)
  refine r_getR (hm := hm) (hf := rfl) (hd := rfl) (hs := (by first | assumption | exact Z0 | exact ZZ0 | exact T1 | exact T2 | exact U1 | exact U2 | exact IX | exact IY | exact IX1 | exact IY1)) (hv := (by first | exact yx.1 | exact yy.1 | exact T5 | exact U5 | exact RX | exact RY | exact FX | exact FY | exact PX0 | exact PY0 | exact hx.2.2.2.2.2.1 0 i k (by omega) hi (by omega) | exact hy.2.2.2.2.2.1 0 j k (by omega) hj (by omega))) (k := ?_)
  refine r_iload_n hm rfl (k := ?_)
  refine r_aald (hm := hm) (hf := rfl) (hs := (by first | assumption | exact Z0 | exact ZZ0 | exact T1 | exact T2 | exact U1 | exact U2 | exact IX | exact IY | exact IX1 | exact IY1)) (hkd := by decide) (hi := rfl) (hn := (by omega)) (hv := (by first | exact yx.1 | exact yy.1 | exact T5 | exact U5 | exact RX | exact RY | exact FX | exact FY | exact PX0 | exact PY0 | exact hx.2.2.2.2.2.1 0 i k (by omega) hi (by omega) | exact hy.2.2.2.2.2.1 0 j k (by omega) hj (by omega))) (k := ?_)
  refine r_astore hm rfl (k := ?_)
  refine r_iconst hm rfl (k := ?_)
  refine r_istore hm rfl (k := ?_)
  refine r_iconst hm rfl (k := ?_)
  refine r_istore hm rfl (k := ?_)
  suffices LP : ∀ (d k : Nat) (c : Int) (z9 : Option Vl), k + d = pcs x i → 0 ≤ c ∧ c ≤ k → c + sm (fun k => if cgk x y H1 H2 w i j k = true then (1 : Int) else 0) k d = cgc x y H1 H2 w i j → RN 129 28 [some (.inr (.inr (some (s1)))), some (.inl (i : Int)), some (.inr (.inr (some (s2)))), some (.inl (j : Int)), some (.inl w), some (.inr (.inr (some (itm h t1 i)))), some (.inr (.inr (some (itm h t2 j)))), some (.inl c), some (.inl (k : Int)), z9] [] h 0 0 (fun v h2 => h2 = h ∧ v = some (.inl (cgc x y H1 H2 w i j))) from LP (pcs x i) 0 0 _ (by omega) (by omega) (by rw [Int.zero_add]; rfl)
  refine fun d => Nat.strongRecOn d (fun d ih => ?_)
  intro k c z9 hd hc hr
  refine r_iload hm rfl (k := ?_)
  refine r_aload hm rfl (k := ?_)
  refine r_getI (hm := hm) (hf := rfl) (hd := rfl) (hs := (by first | assumption | exact Z0 | exact ZZ0 | exact T1 | exact T2 | exact U1 | exact U2 | exact IX | exact IY | exact IX1 | exact IY1)) (hv := (by first | exact yx.1 | exact yy.1 | exact T5 | exact U5 | exact RX | exact RY | exact FX | exact FY | exact PX0 | exact PY0 | exact hx.2.2.2.2.2.1 0 i k (by omega) hi (by omega) | exact hy.2.2.2.2.2.1 0 j k (by omega) hj (by omega))) (k := ?_)
  refine r_icmp_ge (t := 148) hm rfl rfl (fun c35 => ?_) (fun c35 => ?_)
  · refine r_iload hm rfl (k := ?_)
    refine r_ireturn hm rfl rfl (by rfl) (Nat.le_of_ble_eq_true rfl) (Nat.le_of_ble_eq_true rfl) ?_
    have e0 : d = 0 := by omega
    subst e0
    exact ⟨rfl, by rw [← hr, show sm (fun k => if cgk x y H1 H2 w i j k = true then (1 : Int) else 0) k 0 = 0 from rfl, Int.add_zero]⟩
  · refine r_iload hm rfl (k := ?_)
    refine r_aload hm rfl (k := ?_)
    refine r_getI (hm := hm) (hf := rfl) (hd := rfl) (hs := (by first | assumption | exact Z0 | exact ZZ0 | exact T1 | exact T2 | exact U1 | exact U2 | exact IX | exact IY | exact IX1 | exact IY1)) (hv := (by first | exact yx.1 | exact yy.1 | exact T5 | exact U5 | exact RX | exact RY | exact FX | exact FY | exact PX0 | exact PY0 | exact hx.2.2.2.2.2.1 0 i k (by omega) hi (by omega) | exact hy.2.2.2.2.2.1 0 j k (by omega) hj (by omega))) (k := ?_)
    refine r_icmp_ge (t := 148) hm rfl rfl (fun c45 => ?_) (fun c45 => ?_)
    · refine r_iload hm rfl (k := ?_)
      refine r_ireturn hm rfl rfl (by rfl) (Nat.le_of_ble_eq_true rfl) (Nat.le_of_ble_eq_true rfl) ?_
      have e0 : sm (fun k => if cgk x y H1 H2 w i j k = true then (1 : Int) else 0) k d = 0 := by
        have hz := sm_congr (f := (fun k => if cgk x y H1 H2 w i j k = true then (1 : Int) else 0)) (f2 := fun _ => 0) d k (fun q hq1 hq2 => if_neg (fun z => by unfold cgk at z; rw [decide_eq_true_eq] at z; omega))
        have hz2 := sm_le (f := fun _ => (0 : Int)) (B := 0) (fun _ => by omega) d k
        omega
      exact ⟨rfl, by rw [← hr, e0, Int.add_zero]⟩
    · obtain ⟨eq1, eq2⟩ := pcs_eq oky hj
      have hk1 : k < pcs x i := by omega
      have hk2 : k < pcs y j := by omega
      have fx9 := fst_le okx (i + 1) (by omega)
      have fx8 : fst x (i + 1) = fst x i + pcs x i := rfl
      have fy9 := fst_le oky (j + 1) (by omega)
      have fy8 : fst y (j + 1) = fst y j + pcs y j := rfl
      refine r_aload hm rfl (k := ?_)
      refine r_getR (hm := hm) (hf := rfl) (hd := rfl) (hs := (by first | assumption | exact Z0 | exact ZZ0 | exact T1 | exact T2 | exact U1 | exact U2 | exact IX | exact IY | exact IX1 | exact IY1)) (hv := (by first | exact yx.1 | exact yy.1 | exact T5 | exact U5 | exact RX | exact RY | exact FX | exact FY | exact PX0 | exact PY0 | exact hx.2.2.2.2.2.1 0 i k (by omega) hi (by omega) | exact hy.2.2.2.2.2.1 0 j k (by omega) hj (by omega))) (k := ?_)
      refine r_iload hm rfl (k := ?_)
      refine r_iald (hm := hm) (hf := rfl) (hs := (by first | assumption | exact Z0 | exact ZZ0 | exact T1 | exact T2 | exact U1 | exact U2 | exact IX | exact IY | exact IX1 | exact IY1)) (hi := rfl) (hn := (by omega)) (hv := (by first | exact yx.1 | exact yy.1 | exact T5 | exact U5 | exact RX | exact RY | exact FX | exact FY | exact PX0 | exact PY0 | exact hx.2.2.2.2.2.1 0 i k (by omega) hi (by omega) | exact hy.2.2.2.2.2.1 0 j k (by omega) hj (by omega))) (k := ?_)
      refine r_iconst hm rfl (k := ?_)
      refine r_icmp_ne (t := 142) hm rfl rfl (fun c57 => ?_) (fun c57 => ?_)
      · refine r_iinc hm rfl (hr := (by omega)) (k := ?_)
        refine r_goto (t := 28) hm rfl (k := ?_)
        have hg2 := sm_go (f := (fun k => if cgk x y H1 H2 w i j k = true then (1 : Int) else 0)) (i := k) (d := d) (by omega)
        try dsimp only at hg2
        rw [if_neg (fun z => by unfold cgk at z; rw [decide_eq_true_eq] at z; omega)] at hg2
        exact ih (d - 1) (by omega) (k + 1) _ _ (by omega) (by omega) (by omega)
      · refine r_aload hm rfl (k := ?_)
        refine r_getR (hm := hm) (hf := rfl) (hd := rfl) (hs := (by first | assumption | exact Z0 | exact ZZ0 | exact T1 | exact T2 | exact U1 | exact U2 | exact IX | exact IY | exact IX1 | exact IY1)) (hv := (by first | exact yx.1 | exact yy.1 | exact T5 | exact U5 | exact RX | exact RY | exact FX | exact FY | exact PX0 | exact PY0 | exact hx.2.2.2.2.2.1 0 i k (by omega) hi (by omega) | exact hy.2.2.2.2.2.1 0 j k (by omega) hj (by omega))) (k := ?_)
        refine r_iload hm rfl (k := ?_)
        refine r_iald (hm := hm) (hf := rfl) (hs := (by first | assumption | exact Z0 | exact ZZ0 | exact T1 | exact T2 | exact U1 | exact U2 | exact IX | exact IY | exact IX1 | exact IY1)) (hi := rfl) (hn := (by omega)) (hv := (by first | exact yx.1 | exact yy.1 | exact T5 | exact U5 | exact RX | exact RY | exact FX | exact FY | exact PX0 | exact PY0 | exact hx.2.2.2.2.2.1 0 i k (by omega) hi (by omega) | exact hy.2.2.2.2.2.1 0 j k (by omega) hj (by omega))) (k := ?_)
        refine r_iconst hm rfl (k := ?_)
        refine r_icmp_ne (t := 142) hm rfl rfl (fun c69 => ?_) (fun c69 => ?_)
        · refine r_iinc hm rfl (hr := (by omega)) (k := ?_)
          refine r_goto (t := 28) hm rfl (k := ?_)
          have hg2 := sm_go (f := (fun k => if cgk x y H1 H2 w i j k = true then (1 : Int) else 0)) (i := k) (d := d) (by omega)
          try dsimp only at hg2
          rw [if_neg (fun z => by unfold cgk at z; rw [decide_eq_true_eq] at z; omega)] at hg2
          exact ih (d - 1) (by omega) (k + 1) _ _ (by omega) (by omega) (by omega)
        · refine r_iload hm rfl (k := ?_)
          refine r_iconst hm rfl (k := ?_)
          refine r_icmp_ne (t := 103) hm rfl rfl (fun c75 => ?_) (fun c75 => ?_)
          · refine r_aload_n hm rfl (k := ?_)
            refine r_iload_n hm rfl (k := ?_)
            refine r_iload hm rfl (k := ?_)
            refine r_callv (j2 := 130) hm rfl rfl rfl rfl rfl rfl (by first | assumption | exact Z0 | exact ZZ0 | exact T1 | exact T2 | exact U1 | exact U2 | exact IX | exact IY | exact IX1 | exact IY1) (Nat.le_of_ble_eq_true rfl) (Nat.le_of_ble_eq_true rfl) rfl ⟨Nat.le_of_ble_eq_true rfl, Nat.le_of_ble_eq_true rfl, Nat.le_of_ble_eq_true rfl, Nat.le_of_ble_eq_true rfl, Nat.le_of_ble_eq_true rfl⟩ rfl (c_nameMeant g hS1 ht1 hx okx yx hi hk1) (fun v9 h9 p9 => ?_)
            obtain ⟨e1, e2⟩ := p9
            subst e2
            replace e1 := e1.symm
            subst e1
            change RN 129 110 _ _ _ 0 0 _
            dsimp only [Option.toList, List.cons_append, List.nil_append]
            refine r_aload_n hm rfl (k := ?_)
            refine r_iload_n hm rfl (k := ?_)
            refine r_iload hm rfl (k := ?_)
            refine r_callv (j2 := 130) hm rfl rfl rfl rfl rfl rfl (by first | assumption | exact Z0 | exact ZZ0 | exact T1 | exact T2 | exact U1 | exact U2 | exact IX | exact IY | exact IX1 | exact IY1) (Nat.le_of_ble_eq_true rfl) (Nat.le_of_ble_eq_true rfl) rfl ⟨Nat.le_of_ble_eq_true rfl, Nat.le_of_ble_eq_true rfl, Nat.le_of_ble_eq_true rfl, Nat.le_of_ble_eq_true rfl, Nat.le_of_ble_eq_true rfl⟩ rfl (c_nameMeant g hS2 ht2 hy oky yy hj hk2) (fun v9 h9 p9 => ?_)
            obtain ⟨e1, e2⟩ := p9
            subst e2
            replace e1 := e1.symm
            subst e1
            change RN 129 117 _ _ _ 0 0 _
            dsimp only [Option.toList, List.cons_append, List.nil_append]
            refine r_icmp_ne (t := 124) hm rfl rfl (fun c117 => ?_) (fun c117 => ?_)
            · refine r_iconst hm rfl (k := ?_)
              refine r_istore hm rfl (k := ?_)
              refine r_iload hm rfl (k := ?_)
              refine r_iload hm rfl (k := ?_)
              refine r_if_eq (t := 138) hm rfl rfl (fun c131 => ?_) (fun c131 => ?_)
              · refine r_iconst hm rfl (k := ?_)
                refine r_iadd hm rfl (hr := (by omega)) (k := ?_)
                refine r_istore hm rfl (k := ?_)
                refine r_iinc hm rfl (hr := (by omega)) (k := ?_)
                refine r_goto (t := 28) hm rfl (k := ?_)
                have hg2 := sm_go (f := (fun k => if cgk x y H1 H2 w i j k = true then (1 : Int) else 0)) (i := k) (d := d) (by omega)
                try dsimp only at hg2
                rw [if_pos (by unfold cgk; rw [decide_eq_true_eq]; exact ⟨by omega, by omega, by omega, by rw [if_neg (by omega)]; omega⟩)] at hg2
                exact ih (d - 1) (by omega) (k + 1) _ _ (by omega) (by omega) (by omega)
              · exfalso; omega
            · refine r_iconst hm rfl (k := ?_)
              refine r_goto (t := 125) hm rfl (k := ?_)
              refine r_istore hm rfl (k := ?_)
              refine r_iload hm rfl (k := ?_)
              refine r_iload hm rfl (k := ?_)
              refine r_if_eq (t := 138) hm rfl rfl (fun c131 => ?_) (fun c131 => ?_)
              · exfalso; omega
              · refine r_iconst hm rfl (k := ?_)
                refine r_goto (t := 139) hm rfl (k := ?_)
                refine r_iadd hm rfl (hr := (by omega)) (k := ?_)
                refine r_istore hm rfl (k := ?_)
                refine r_iinc hm rfl (hr := (by omega)) (k := ?_)
                refine r_goto (t := 28) hm rfl (k := ?_)
                have hg2 := sm_go (f := (fun k => if cgk x y H1 H2 w i j k = true then (1 : Int) else 0)) (i := k) (d := d) (by omega)
                try dsimp only at hg2
                rw [if_neg (fun z => by unfold cgk at z; rw [decide_eq_true_eq] at z; have z4 := z.2.2.2; rw [if_neg (by omega)] at z4; omega)] at hg2
                exact ih (d - 1) (by omega) (k + 1) _ _ (by omega) (by omega) (by omega)
          · refine r_aload_n hm rfl (k := ?_)
            refine r_iload_n hm rfl (k := ?_)
            refine r_iload hm rfl (k := ?_)
            refine r_callv (j2 := 84) hm rfl rfl rfl rfl rfl rfl (by first | assumption | exact Z0 | exact ZZ0 | exact T1 | exact T2 | exact U1 | exact U2 | exact IX | exact IY | exact IX1 | exact IY1) (Nat.le_of_ble_eq_true rfl) (Nat.le_of_ble_eq_true rfl) rfl ⟨Nat.le_of_ble_eq_true rfl, Nat.le_of_ble_eq_true rfl, Nat.le_of_ble_eq_true rfl, Nat.le_of_ble_eq_true rfl, Nat.le_of_ble_eq_true rfl⟩ rfl (c_lettersOf g hS1 (F := fst x i) (by omega) (by omega) (yx.2.2.2.2.2.2.2.1 i (by omega)) (yx.2.2.2.2.2.2.2.2.1.1 i k (by omega) (by omega))) (fun v9 h9 p9 => ?_)
            obtain ⟨e1, e2⟩ := p9
            subst e2
            replace e1 := e1.symm
            subst e1
            change RN 129 85 _ _ _ 0 0 _
            dsimp only [Option.toList, List.cons_append, List.nil_append]
            refine r_aload_n hm rfl (k := ?_)
            refine r_iload_n hm rfl (k := ?_)
            refine r_iload hm rfl (k := ?_)
            refine r_callv (j2 := 84) hm rfl rfl rfl rfl rfl rfl (by first | assumption | exact Z0 | exact ZZ0 | exact T1 | exact T2 | exact U1 | exact U2 | exact IX | exact IY | exact IX1 | exact IY1) (Nat.le_of_ble_eq_true rfl) (Nat.le_of_ble_eq_true rfl) rfl ⟨Nat.le_of_ble_eq_true rfl, Nat.le_of_ble_eq_true rfl, Nat.le_of_ble_eq_true rfl, Nat.le_of_ble_eq_true rfl, Nat.le_of_ble_eq_true rfl⟩ rfl (c_lettersOf g hS2 (F := fst y j) (by omega) (by omega) (yy.2.2.2.2.2.2.2.1 j (by omega)) (yy.2.2.2.2.2.2.2.2.1.1 j k (by omega) (by omega))) (fun v9 h9 p9 => ?_)
            obtain ⟨e1, e2⟩ := p9
            subst e2
            replace e1 := e1.symm
            subst e1
            change RN 129 92 _ _ _ 0 0 _
            dsimp only [Option.toList, List.cons_append, List.nil_append]
            refine r_icmp_ne (t := 99) hm rfl rfl (fun c92 => ?_) (fun c92 => ?_)
            · refine r_iconst hm rfl (k := ?_)
              refine r_goto (t := 125) hm rfl (k := ?_)
              refine r_istore hm rfl (k := ?_)
              refine r_iload hm rfl (k := ?_)
              refine r_iload hm rfl (k := ?_)
              refine r_if_eq (t := 138) hm rfl rfl (fun c131 => ?_) (fun c131 => ?_)
              · refine r_iconst hm rfl (k := ?_)
                refine r_iadd hm rfl (hr := (by omega)) (k := ?_)
                refine r_istore hm rfl (k := ?_)
                refine r_iinc hm rfl (hr := (by omega)) (k := ?_)
                refine r_goto (t := 28) hm rfl (k := ?_)
                have hg2 := sm_go (f := (fun k => if cgk x y H1 H2 w i j k = true then (1 : Int) else 0)) (i := k) (d := d) (by omega)
                try dsimp only at hg2
                rw [if_pos (by unfold cgk; rw [decide_eq_true_eq]; exact ⟨by omega, by omega, by omega, by rw [if_pos (by omega)]; unfold ltF; omega⟩)] at hg2
                exact ih (d - 1) (by omega) (k + 1) _ _ (by omega) (by omega) (by omega)
              · exfalso; omega
            · refine r_iconst hm rfl (k := ?_)
              refine r_goto (t := 125) hm rfl (k := ?_)
              refine r_istore hm rfl (k := ?_)
              refine r_iload hm rfl (k := ?_)
              refine r_iload hm rfl (k := ?_)
              refine r_if_eq (t := 138) hm rfl rfl (fun c131 => ?_) (fun c131 => ?_)
              · exfalso; omega
              · refine r_iconst hm rfl (k := ?_)
                refine r_goto (t := 139) hm rfl (k := ?_)
                refine r_iadd hm rfl (hr := (by omega)) (k := ?_)
                refine r_istore hm rfl (k := ?_)
                refine r_iinc hm rfl (hr := (by omega)) (k := ?_)
                refine r_goto (t := 28) hm rfl (k := ?_)
                have hg2 := sm_go (f := (fun k => if cgk x y H1 H2 w i j k = true then (1 : Int) else 0)) (i := k) (d := d) (by omega)
                try dsimp only at hg2
                rw [if_neg (fun z => by unfold cgk at z; rw [decide_eq_true_eq] at z; have z4 := z.2.2.2; rw [if_pos (by omega)] at z4; unfold ltF at z4; omega)] at hg2
                exact ih (d - 1) (by omega) (k + 1) _ _ (by omega) (by omega) (by omega)
set_option maxRecDepth 8000 in
theorem c_chgItem {L : Nat} {h : Hp} {s1 s2 t1 t2 : Nat} {x y : Tx} {H1 H2 : Int} (g : GG L h) (hS1 : isS s1) (hS2 : isS s2) (ht1 : isT t1) (ht2 : isT t2) (hx : RepC h t1 x) (hy : RepC h t2 y) (okx : okTx x) (oky : okTx y) (yx : SetC h s1 t1 x H1) (yy : SetC h s2 t2 y H2) (hH1 : 8 ≤ H1 ∧ H1 ≤ 60) (hH2 : 8 ≤ H2 ∧ H2 ≤ 60) {i j : Nat} {w : Int} (hi : i < x.1) (hj : j < y.1) : RN 127 0 [some (.inr (.inr (some (s1)))), some (.inl (i : Int)), some (.inr (.inr (some (s2)))), some (.inl (j : Int)), some (.inl w)] [] h 0 0 (fun v h2 => h2 = h ∧ v = some (.inl (cgi x y H1 H2 w i j))) := by
  have hm : mrec 127 = some nM127 := rfl
  have n60 := okx.1
  have m60 := oky.1
  obtain ⟨Z0, Z14, -, -, -, -, -, -, W0, W1, -⟩ := g.st hS1
  obtain ⟨ZZ0, ZZ14, -, -, -, -, -, -, WW0, WW1, -⟩ := g.st hS2
  obtain ⟨G1, -, -, -, -, -, -, -, K0, -⟩ := g.ly hS1
  obtain ⟨GG1, -, -, -, -, -, -, -, KK0, -⟩ := g.ly hS2
  obtain ⟨PA, -, PA2, -, -, -, -, PR1, -⟩ := g.pg (isS_P hS1)
  obtain ⟨PB, -, PB2, -, -, -, -, PR2, -⟩ := g.pg (isS_P hS2)
  have vx := yx.2.2.2.2.2.1.1.2.2.2.2.2.1 i (by have := (psf_ok okx (ltR_ok (H := H1) okx (fin x H1)) hH1).2.1 i hi; omega)
  have vy := yy.2.2.2.2.2.1.1.2.2.2.2.2.1 j (by have := (psf_ok oky (ltR_ok (H := H2) oky (fin y H2)) hH2).2.1 j hj; omega)
  refine r_iload hm rfl (k := ?_)
  by_cases s2_0 : w = 0
  · refine r_tsw hm rfl 28 (fun q => by omega) (fun q => ⟨26, by rw [s2_0]; rfl, rfl⟩) ?_
    refine r_iconst hm rfl (k := ?_)
    refine r_ireturn hm rfl rfl (by rfl) (Nat.le_of_ble_eq_true rfl) (Nat.le_of_ble_eq_true rfl) ?_
    refine ⟨rfl, ?_⟩
    unfold cgi
    rw [if_pos (by omega)]
  by_cases s2_1 : w = 1
  · refine r_tsw hm rfl 30 (fun q => by omega) (fun q => ⟨28, by rw [s2_1]; rfl, rfl⟩) ?_
    refine r_aload_n hm rfl (k := ?_)
    refine r_getR (hm := hm) (hf := rfl) (hd := rfl) (hs := (by first | assumption | exact Z0 | exact ZZ0 | exact G1 | exact GG1 | exact Z14 | exact ZZ14 | exact PA | exact PB | exact PA2 | exact PB2)) (hv := (by first | exact W0 | exact WW0 | exact W1 | exact WW1 | exact K0 | exact KK0 | exact PR1 | exact PR2 | exact vx | exact vy)) (k := ?_)
    refine r_iload_n hm rfl (k := ?_)
    refine r_aload_n hm rfl (k := ?_)
    refine r_getR (hm := hm) (hf := rfl) (hd := rfl) (hs := (by first | assumption | exact Z0 | exact ZZ0 | exact G1 | exact GG1 | exact Z14 | exact ZZ14 | exact PA | exact PB | exact PA2 | exact PB2)) (hv := (by first | exact W0 | exact WW0 | exact W1 | exact WW1 | exact K0 | exact KK0 | exact PR1 | exact PR2 | exact vx | exact vy)) (k := ?_)
    refine r_iload_n hm rfl (k := ?_)
    refine r_callv (j2 := 128) hm rfl rfl rfl rfl rfl rfl (by first | assumption | exact Z0 | exact ZZ0 | exact G1 | exact GG1 | exact Z14 | exact ZZ14 | exact PA | exact PB | exact PA2 | exact PB2) (Nat.le_of_ble_eq_true rfl) (Nat.le_of_ble_eq_true rfl) rfl ⟨Nat.le_of_ble_eq_true rfl, Nat.le_of_ble_eq_true rfl, Nat.le_of_ble_eq_true rfl, Nat.le_of_ble_eq_true rfl, Nat.le_of_ble_eq_true rfl⟩ rfl (c_isLikeN g (isS_N hS1) (isS_N hS2) yx.2.2.2.2.2.2.2.2.2.2.2 yy.2.2.2.2.2.2.2.2.2.2.2 hi hj okx.1 oky.1) (fun v9 h9 p9 => ?_)
    obtain ⟨e1, e2⟩ := p9
    subst e2
    replace e1 := e1.symm
    subst e1
    obtain ⟨b7, eb7, hb7⟩ := ite01 (p := lkn x y i j = true)
    rw [eb7]
    change RN 127 43 _ _ _ 0 0 _
    dsimp only [Option.toList, List.cons_append, List.nil_append]
    refine r_if_eq (t := 50) hm rfl rfl (fun c43 => ?_) (fun c43 => ?_)
    · refine r_iconst hm rfl (k := ?_)
      refine r_ireturn hm rfl rfl (by rfl) (Nat.le_of_ble_eq_true rfl) (Nat.le_of_ble_eq_true rfl) ?_
      refine ⟨rfl, ?_⟩
      unfold cgi
      rw [if_neg (by omega), if_pos (by omega)]
      rw [if_neg (by rcases hb7 with z | z; omega; exact z.1)]
    · refine r_iconst hm rfl (k := ?_)
      refine r_goto (t := 51) hm rfl (k := ?_)
      refine r_ireturn hm rfl rfl (by rfl) (Nat.le_of_ble_eq_true rfl) (Nat.le_of_ble_eq_true rfl) ?_
      refine ⟨rfl, ?_⟩
      unfold cgi
      rw [if_neg (by omega), if_pos (by omega)]
      rw [if_pos (by rcases hb7 with z | z; exact z.1; omega)]
  by_cases s2_2 : w = 2
  · refine r_tsw hm rfl 52 (fun q => by omega) (fun q => ⟨50, by rw [s2_2]; rfl, rfl⟩) ?_
    refine r_aload_n hm rfl (k := ?_)
    refine r_getR (hm := hm) (hf := rfl) (hd := rfl) (hs := (by first | assumption | exact Z0 | exact ZZ0 | exact G1 | exact GG1 | exact Z14 | exact ZZ14 | exact PA | exact PB | exact PA2 | exact PB2)) (hv := (by first | exact W0 | exact WW0 | exact W1 | exact WW1 | exact K0 | exact KK0 | exact PR1 | exact PR2 | exact vx | exact vy)) (k := ?_)
    refine r_getR (hm := hm) (hf := rfl) (hd := rfl) (hs := (by first | assumption | exact Z0 | exact ZZ0 | exact G1 | exact GG1 | exact Z14 | exact ZZ14 | exact PA | exact PB | exact PA2 | exact PB2)) (hv := (by first | exact W0 | exact WW0 | exact W1 | exact WW1 | exact K0 | exact KK0 | exact PR1 | exact PR2 | exact vx | exact vy)) (k := ?_)
    refine r_getR (hm := hm) (hf := rfl) (hd := rfl) (hs := (by first | assumption | exact Z0 | exact ZZ0 | exact G1 | exact GG1 | exact Z14 | exact ZZ14 | exact PA | exact PB | exact PA2 | exact PB2)) (hv := (by first | exact W0 | exact WW0 | exact W1 | exact WW1 | exact K0 | exact KK0 | exact PR1 | exact PR2 | exact vx | exact vy)) (k := ?_)
    refine r_iload_n hm rfl (k := ?_)
    refine r_iald (hm := hm) (hf := rfl) (hs := (by first | assumption | exact Z0 | exact ZZ0 | exact G1 | exact GG1 | exact Z14 | exact ZZ14 | exact PA | exact PB | exact PA2 | exact PB2)) (hi := rfl) (hn := (by omega)) (hv := (by first | exact W0 | exact WW0 | exact W1 | exact WW1 | exact K0 | exact KK0 | exact PR1 | exact PR2 | exact vx | exact vy)) (k := ?_)
    refine r_aload_n hm rfl (k := ?_)
    refine r_getR (hm := hm) (hf := rfl) (hd := rfl) (hs := (by first | assumption | exact Z0 | exact ZZ0 | exact G1 | exact GG1 | exact Z14 | exact ZZ14 | exact PA | exact PB | exact PA2 | exact PB2)) (hv := (by first | exact W0 | exact WW0 | exact W1 | exact WW1 | exact K0 | exact KK0 | exact PR1 | exact PR2 | exact vx | exact vy)) (k := ?_)
    refine r_getR (hm := hm) (hf := rfl) (hd := rfl) (hs := (by first | assumption | exact Z0 | exact ZZ0 | exact G1 | exact GG1 | exact Z14 | exact ZZ14 | exact PA | exact PB | exact PA2 | exact PB2)) (hv := (by first | exact W0 | exact WW0 | exact W1 | exact WW1 | exact K0 | exact KK0 | exact PR1 | exact PR2 | exact vx | exact vy)) (k := ?_)
    refine r_getR (hm := hm) (hf := rfl) (hd := rfl) (hs := (by first | assumption | exact Z0 | exact ZZ0 | exact G1 | exact GG1 | exact Z14 | exact ZZ14 | exact PA | exact PB | exact PA2 | exact PB2)) (hv := (by first | exact W0 | exact WW0 | exact W1 | exact WW1 | exact K0 | exact KK0 | exact PR1 | exact PR2 | exact vx | exact vy)) (k := ?_)
    refine r_iload_n hm rfl (k := ?_)
    refine r_iald (hm := hm) (hf := rfl) (hs := (by first | assumption | exact Z0 | exact ZZ0 | exact G1 | exact GG1 | exact Z14 | exact ZZ14 | exact PA | exact PB | exact PA2 | exact PB2)) (hi := rfl) (hn := (by omega)) (hv := (by first | exact W0 | exact WW0 | exact W1 | exact WW1 | exact K0 | exact KK0 | exact PR1 | exact PR2 | exact vx | exact vy)) (k := ?_)
    refine r_icmp_ne (t := 83) hm rfl rfl (fun c76 => ?_) (fun c76 => ?_)
    · refine r_iconst hm rfl (k := ?_)
      refine r_ireturn hm rfl rfl (by rfl) (Nat.le_of_ble_eq_true rfl) (Nat.le_of_ble_eq_true rfl) ?_
      refine ⟨rfl, ?_⟩
      unfold cgi fpF ltF
      rw [if_neg (by omega), if_neg (by omega), if_pos (by omega)]
      rw [if_neg (by omega)]
    · refine r_iconst hm rfl (k := ?_)
      refine r_goto (t := 84) hm rfl (k := ?_)
      refine r_ireturn hm rfl rfl (by rfl) (Nat.le_of_ble_eq_true rfl) (Nat.le_of_ble_eq_true rfl) ?_
      refine ⟨rfl, ?_⟩
      unfold cgi fpF ltF
      rw [if_neg (by omega), if_neg (by omega), if_pos (by omega)]
      rw [if_pos (by omega)]
  refine r_tsw hm rfl 85 (fun q => rfl) (fun q => by exfalso; omega) ?_
  refine r_aload_n hm rfl (k := ?_)
  refine r_iload_n hm rfl (k := ?_)
  refine r_aload_n hm rfl (k := ?_)
  refine r_iload_n hm rfl (k := ?_)
  refine r_iload hm rfl (k := ?_)
  refine r_calls (j2 := 129) hm rfl rfl rfl rfl rfl rfl (Nat.le_of_ble_eq_true rfl) (Nat.le_of_ble_eq_true rfl) rfl ⟨Nat.le_of_ble_eq_true rfl, Nat.le_of_ble_eq_true rfl, Nat.le_of_ble_eq_true rfl, Nat.le_of_ble_eq_true rfl, Nat.le_of_ble_eq_true rfl⟩ rfl (c_chgCalls g hS1 hS2 ht1 ht2 hx hy okx oky yx yy hi hj) (fun v9 h9 p9 => ?_)
  obtain ⟨e1, e2⟩ := p9
  subst e2
  replace e1 := e1.symm
  subst e1
  change RN 127 94 _ _ _ 0 0 _
  dsimp only [Option.toList, List.cons_append, List.nil_append]
  refine r_ireturn hm rfl rfl (by rfl) (Nat.le_of_ble_eq_true rfl) (Nat.le_of_ble_eq_true rfl) ?_
  refine ⟨rfl, ?_⟩
  unfold cgi
  rw [if_neg (by omega), if_neg (by omega), if_neg (by omega)]
set_option maxRecDepth 8000 in
theorem c_chgAll {L : Nat} {h : Hp} {s1 s2 t1 t2 : Nat} {x y : Tx} {H1 H2 : Int} (g : GG L h) (hS1 : isS s1) (hS2 : isS s2) (ht1 : isT t1) (ht2 : isT t2) (hx : RepC h t1 x) (hy : RepC h t2 y) (okx : okTx x) (oky : okTx y) (yx : SetC h s1 t1 x H1) (yy : SetC h s2 t2 y H2) (hH1 : 8 ≤ H1 ∧ H1 ≤ 60) (hH2 : 8 ≤ H2 ∧ H2 ≤ 60) {w : Int} : RN 125 0 [some (.inr (.inr (some (s1)))), some (.inr (.inr (some (s2)))), some (.inl w), none, none, none, none] [] h 0 0 (fun v h2 => h2 = h ∧ v = some (.inl (bsd x y H1 H2 w))) := by
  have hm : mrec 125 = some nM125 := rfl
  have n60 := okx.1
  have m60 := oky.1
  have Z0 := (g.st hS1).1
  have ZZ0 := (g.st hS2).1
  obtain ⟨T1, T2, T3, T4, T5, T6, T7⟩ := g.tx ht1
  obtain ⟨U1, U2, U3, U4, U5, U6, U7⟩ := g.tx ht2
  refine r_iconst hm rfl (k := ?_)
  refine r_istore_n hm rfl (k := ?_)
  refine r_iconst hm rfl (k := ?_)
  refine r_istore hm rfl (k := ?_)
  refine r_iconst hm rfl (k := ?_)
  refine r_istore hm rfl (k := ?_)
  suffices LP : ∀ (d i : Nat) (b c : Int) (z6 : Option Vl), i + d = x.1 → 0 ≤ b ∧ b ≤ i → 0 ≤ c ∧ c ≤ 20 * i → b + sm (ibo x y) i d = sm (ibo x y) 0 x.1 → c + sm (cga x y H1 H2 w) i d = sm (cga x y H1 H2 w) 0 x.1 → RN 125 8 [some (.inr (.inr (some (s1)))), some (.inr (.inr (some (s2)))), some (.inl w), some (.inl b), some (.inl c), some (.inl (i : Int)), z6] [] h 0 0 (fun v h2 => h2 = h ∧ v = some (.inl (bsd x y H1 H2 w))) from LP x.1 0 0 0 _ (by omega) (by omega) (by omega) (by omega) (by omega)
  refine fun d => Nat.strongRecOn d (fun d ih => ?_)
  intro i b c z6 hd hb hc hr1 hr2
  refine r_iload hm rfl (k := ?_)
  refine r_aload_n hm rfl (k := ?_)
  refine r_getR (hm := hm) (hf := rfl) (hd := rfl) (hs := (by first | assumption | exact Z0 | exact ZZ0 | exact T1 | exact T2 | exact U1 | exact IX)) (hv := (by first | exact yx.1 | exact yy.1 | exact T5 | exact RX | exact FX | exact hx.1 | exact hy.1)) (k := ?_)
  refine r_getI (hm := hm) (hf := rfl) (hd := rfl) (hs := (by first | assumption | exact Z0 | exact ZZ0 | exact T1 | exact T2 | exact U1 | exact IX)) (hv := (by first | exact yx.1 | exact yy.1 | exact T5 | exact RX | exact FX | exact hx.1 | exact hy.1)) (k := ?_)
  refine r_icmp_ge (t := 72) hm rfl rfl (fun c17 => ?_) (fun c17 => ?_)
  · refine r_iload_n hm rfl (k := ?_)
    refine r_if_ne (t := 98) hm rfl rfl (fun c73 => ?_) (fun c73 => ?_)
    · refine r_iload hm rfl (k := ?_)
      refine r_ireturn hm rfl rfl (by rfl) (Nat.le_of_ble_eq_true rfl) (Nat.le_of_ble_eq_true rfl) ?_
      have e0 : d = 0 := by omega
      subst e0
      have e1 : sm (ibo x y) i 0 = 0 := rfl
      have e2 : sm (cga x y H1 H2 w) i 0 = 0 := rfl
      refine ⟨rfl, ?_⟩
      unfold bsd
      rw [if_neg (by omega)]
      congr 2
      omega
    · refine r_aload_n hm rfl (k := ?_)
      refine r_getR (hm := hm) (hf := rfl) (hd := rfl) (hs := (by first | assumption | exact Z0 | exact ZZ0 | exact T1 | exact T2 | exact U1 | exact IX)) (hv := (by first | exact yx.1 | exact yy.1 | exact T5 | exact RX | exact FX | exact hx.1 | exact hy.1)) (k := ?_)
      refine r_getI (hm := hm) (hf := rfl) (hd := rfl) (hs := (by first | assumption | exact Z0 | exact ZZ0 | exact T1 | exact T2 | exact U1 | exact IX)) (hv := (by first | exact yx.1 | exact yy.1 | exact T5 | exact RX | exact FX | exact hx.1 | exact hy.1)) (k := ?_)
      refine r_aload_n hm rfl (k := ?_)
      refine r_getR (hm := hm) (hf := rfl) (hd := rfl) (hs := (by first | assumption | exact Z0 | exact ZZ0 | exact T1 | exact T2 | exact U1 | exact IX)) (hv := (by first | exact yx.1 | exact yy.1 | exact T5 | exact RX | exact FX | exact hx.1 | exact hy.1)) (k := ?_)
      refine r_getI (hm := hm) (hf := rfl) (hd := rfl) (hs := (by first | assumption | exact Z0 | exact ZZ0 | exact T1 | exact T2 | exact U1 | exact IX)) (hv := (by first | exact yx.1 | exact yy.1 | exact T5 | exact RX | exact FX | exact hx.1 | exact hy.1)) (k := ?_)
      refine r_iadd hm rfl (hr := (by omega)) (k := ?_)
      refine r_iconst hm rfl (k := ?_)
      refine r_iload_n hm rfl (k := ?_)
      refine r_imul hm rfl (hr := (by omega)) (k := ?_)
      refine r_isub hm rfl (hr := (by omega)) (k := ?_)
      refine r_goto (t := 100) hm rfl (k := ?_)
      refine r_ireturn hm rfl rfl (by rfl) (Nat.le_of_ble_eq_true rfl) (Nat.le_of_ble_eq_true rfl) ?_
      have e0 : d = 0 := by omega
      subst e0
      have e1 : sm (ibo x y) i 0 = 0 := rfl
      have e2 : sm (cga x y H1 H2 w) i 0 = 0 := rfl
      refine ⟨rfl, ?_⟩
      unfold bsd
      rw [if_pos (by omega)]
      congr 2
      omega
  · have hi : i < x.1 := by omega
    have RX := (hx.2.2.1 i (by omega)).1
    obtain ⟨IX, IX1, -, -, PX0, -, -, -⟩ := g.it ht1 (hx.2.2.1 i (by omega)).2
    have FX := hx.2.2.2.2.1 0 i (by omega) hi
    have ga := sm_go (f := ibo x y) (i := i) (d := d) (by omega)
    have gb := sm_go (f := cga x y H1 H2 w) (i := i) (d := d) (by omega)
    have hpr := @pnm_rng y (x.2.1 0 i)
    have qN := c_placeOfName g ht2 hy (m := x.2.1 0 i)
    rw [show fi (fun k => y.2.1 0 k == x.2.1 0 i) 0 y.1 = pnm y (x.2.1 0 i) from rfl] at qN
    refine r_aload_n hm rfl (k := ?_)
    refine r_getR (hm := hm) (hf := rfl) (hd := rfl) (hs := (by first | assumption | exact Z0 | exact ZZ0 | exact T1 | exact T2 | exact U1 | exact IX)) (hv := (by first | exact yx.1 | exact yy.1 | exact T5 | exact RX | exact FX | exact hx.1 | exact hy.1)) (k := ?_)
    refine r_aload_n hm rfl (k := ?_)
    refine r_getR (hm := hm) (hf := rfl) (hd := rfl) (hs := (by first | assumption | exact Z0 | exact ZZ0 | exact T1 | exact T2 | exact U1 | exact IX)) (hv := (by first | exact yx.1 | exact yy.1 | exact T5 | exact RX | exact FX | exact hx.1 | exact hy.1)) (k := ?_)
    refine r_getR (hm := hm) (hf := rfl) (hd := rfl) (hs := (by first | assumption | exact Z0 | exact ZZ0 | exact T1 | exact T2 | exact U1 | exact IX)) (hv := (by first | exact yx.1 | exact yy.1 | exact T5 | exact RX | exact FX | exact hx.1 | exact hy.1)) (k := ?_)
    refine r_iload hm rfl (k := ?_)
    refine r_aald (hm := hm) (hf := rfl) (hs := (by first | assumption | exact Z0 | exact ZZ0 | exact T1 | exact T2 | exact U1 | exact IX)) (hkd := by decide) (hi := rfl) (hn := (by omega)) (hv := (by first | exact yx.1 | exact yy.1 | exact T5 | exact RX | exact FX | exact hx.1 | exact hy.1)) (k := ?_)
    refine r_getI (hm := hm) (hf := rfl) (hd := rfl) (hs := (by first | assumption | exact Z0 | exact ZZ0 | exact T1 | exact T2 | exact U1 | exact IX)) (hv := (by first | exact yx.1 | exact yy.1 | exact T5 | exact RX | exact FX | exact hx.1 | exact hy.1)) (k := ?_)
    refine r_callv (j2 := 126) hm rfl rfl rfl rfl rfl rfl (by first | assumption | exact Z0 | exact ZZ0 | exact T1 | exact T2 | exact U1 | exact IX) (Nat.le_of_ble_eq_true rfl) (Nat.le_of_ble_eq_true rfl) rfl ⟨Nat.le_of_ble_eq_true rfl, Nat.le_of_ble_eq_true rfl, Nat.le_of_ble_eq_true rfl, Nat.le_of_ble_eq_true rfl, Nat.le_of_ble_eq_true rfl⟩ rfl (qN) (fun v9 h9 p9 => ?_)
    obtain ⟨e1, e2⟩ := p9
    subst e2
    replace e1 := e1.symm
    subst e1
    change RN 125 40 _ _ _ 0 0 _
    dsimp only [Option.toList, List.cons_append, List.nil_append]
    refine r_istore hm rfl (k := ?_)
    refine r_iload hm rfl (k := ?_)
    refine r_iconst hm rfl (k := ?_)
    refine r_icmp_eq (t := 66) hm rfl rfl (fun c45 => ?_) (fun c45 => ?_)
    · refine r_iinc hm rfl (hr := (by omega)) (k := ?_)
      refine r_goto (t := 8) hm rfl (k := ?_)
      have e1 : ibo x y i = 0 := if_pos (by omega)
      have e2 : cga x y H1 H2 w i = 0 := if_pos (by omega)
      exact ih (d - 1) (by omega) (i + 1) _ _ _ (by omega) (by omega) (by omega) (by omega) (by omega)
    · have hcr := cgi_rng (y := y) (H1 := H1) (H2 := H2) (w := w) (j := (pnm y (x.2.1 0 i)).toNat) okx hi
      have qI := c_chgItem g hS1 hS2 ht1 ht2 hx hy okx oky yx yy hH1 hH2 (w := w) hi (j := (pnm y (x.2.1 0 i)).toNat) (by omega)
      rw [show (((pnm y (x.2.1 0 i)).toNat : Nat) : Int) = pnm y (x.2.1 0 i) by omega] at qI
      refine r_iinc hm rfl (hr := (by omega)) (k := ?_)
      refine r_iload hm rfl (k := ?_)
      refine r_aload_n hm rfl (k := ?_)
      refine r_iload hm rfl (k := ?_)
      refine r_aload_n hm rfl (k := ?_)
      refine r_iload hm rfl (k := ?_)
      refine r_iload_n hm rfl (k := ?_)
      refine r_calls (j2 := 127) hm rfl rfl rfl rfl rfl rfl (Nat.le_of_ble_eq_true rfl) (Nat.le_of_ble_eq_true rfl) rfl ⟨Nat.le_of_ble_eq_true rfl, Nat.le_of_ble_eq_true rfl, Nat.le_of_ble_eq_true rfl, Nat.le_of_ble_eq_true rfl, Nat.le_of_ble_eq_true rfl⟩ rfl (qI) (fun v9 h9 p9 => ?_)
      obtain ⟨e1, e2⟩ := p9
      subst e2
      replace e1 := e1.symm
      subst e1
      change RN 125 63 _ _ _ 0 0 _
      dsimp only [Option.toList, List.cons_append, List.nil_append]
      refine r_iadd hm rfl (hr := (by omega)) (k := ?_)
      refine r_istore hm rfl (k := ?_)
      refine r_iinc hm rfl (hr := (by omega)) (k := ?_)
      refine r_goto (t := 8) hm rfl (k := ?_)
      have e1 : ibo x y i = 1 := if_neg (by omega)
      have e2 : cga x y H1 H2 w i = cgi x y H1 H2 w i (pnm y (x.2.1 0 i)).toNat := if_neg (by omega)
      exact ih (d - 1) (by omega) (i + 1) _ _ _ (by omega) (by omega) (by omega) (by omega) (by omega)
theorem c_freshSetting9 {L : Nat} {h : Hp} {S : St} (I : InvC L h S) (ok : okS S) : RN 52 0 [some (.inr (.inr (some (28))))] [] h 0 0 (fun v h2 => InvC L h2 S ∧ FxC h h2 ∧ SetC h2 294 29 S.1 (S.1.2.2.2 0) ∧ (∀ a k, 319 ≤ a → a ≤ 319 + 24 → h2.2.1 a k = h.2.1 a k) ∧ h2.2.2.1 319 8 = h.2.2.1 319 8 ∧ v = some (.inr (.inr (some 294)))) := by
  have hm : mrec 52 = some nM52 := rfl
  obtain ⟨g, C, hR, hV, hK, hG, hSt, hL, hB, hFl⟩ := id I
  have hok := ok.1
  have ht : isT 29 := Or.inl rfl
  obtain ⟨T1, T2, T3, T4, T5, T6, T7⟩ := g.tx ht
  obtain ⟨I0, I1, I2, I3, I4, J0, J1, J2, F0, F1, F2, F3, F4, P0, P1, P2⟩ := hR.use g ht
  obtain ⟨R1, R2, R3, R4, R5, R6, R7⟩ := id hR
  have n60 := hok.1
  have g1 := g
  have hs10 : h.2.1 28 10 = h.2.1 28 10 := rfl
  refine r_aload_n hm rfl (k := ?_)
  refine r_getI (hm := hm) (hf := rfl) (hd := rfl) (hs := (by first | assumption | exact (g1.1 _).trans rfl | exact I1 _ (by omega) | exact I2 _ (by omega) | exact I3 _ (by omega) | exact I4 _ (by omega))) (hv := (by first | assumption | exact g1.2 _ _ _ rfl | exact hs10)) (k := ?_)
  refine r_if_ne (t := 33) hm rfl rfl (fun c4 => ?_) (fun c4 => ?_)
  · refine r_aload_n hm rfl (k := ?_)
    refine r_getR (hm := hm) (hf := rfl) (hd := rfl) (hs := (by first | assumption | exact (g1.1 _).trans rfl | exact I1 _ (by omega) | exact I2 _ (by omega) | exact I3 _ (by omega) | exact I4 _ (by omega))) (hv := (by first | assumption | exact g1.2 _ _ _ rfl | exact hs10)) (k := ?_)
    refine r_areturn hm rfl rfl (Nat.le_of_ble_eq_true rfl) (Nat.le_of_ble_eq_true rfl) ?_
    exact ⟨I, FxC.refl, (by rcases hSt with e | e; omega; exact e.2), fun _ _ _ _ => rfl, rfl, rfl⟩
  · refine r_aload_n hm rfl (k := ?_)
    refine r_getR (hm := hm) (hf := rfl) (hd := rfl) (hs := (by first | assumption | exact (g1.1 _).trans rfl | exact I1 _ (by omega) | exact I2 _ (by omega) | exact I3 _ (by omega) | exact I4 _ (by omega))) (hv := (by first | assumption | exact g1.2 _ _ _ rfl | exact hs10)) (k := ?_)
    refine r_aload_n hm rfl (k := ?_)
    refine r_getR (hm := hm) (hf := rfl) (hd := rfl) (hs := (by first | assumption | exact (g1.1 _).trans rfl | exact I1 _ (by omega) | exact I2 _ (by omega) | exact I3 _ (by omega) | exact I4 _ (by omega))) (hv := (by first | assumption | exact g1.2 _ _ _ rfl | exact hs10)) (k := ?_)
    refine r_aload_n hm rfl (k := ?_)
    refine r_getR (hm := hm) (hf := rfl) (hd := rfl) (hs := (by first | assumption | exact (g1.1 _).trans rfl | exact I1 _ (by omega) | exact I2 _ (by omega) | exact I3 _ (by omega) | exact I4 _ (by omega))) (hv := (by first | assumption | exact g1.2 _ _ _ rfl | exact hs10)) (k := ?_)
    refine r_getR (hm := hm) (hf := rfl) (hd := rfl) (hs := (by first | assumption | exact (g1.1 _).trans rfl | exact I1 _ (by omega) | exact I2 _ (by omega) | exact I3 _ (by omega) | exact I4 _ (by omega))) (hv := (by first | assumption | exact g1.2 _ _ _ rfl | exact hs10)) (k := ?_)
    refine r_callv (j2 := 53) hm rfl rfl rfl rfl rfl rfl (by first | assumption | exact (g1.1 _).trans rfl | exact I1 _ (by omega) | exact I2 _ (by omega) | exact I3 _ (by omega) | exact I4 _ (by omega)) (Nat.le_of_ble_eq_true rfl) (Nat.le_of_ble_eq_true rfl) rfl ⟨Nat.le_of_ble_eq_true rfl, Nat.le_of_ble_eq_true rfl, Nat.le_of_ble_eq_true rfl, Nat.le_of_ble_eq_true rfl, Nat.le_of_ble_eq_true rfl⟩ rfl (c_height (s := 31) T3 T4 T7) (fun v9 h9 p9 => ?_)
    obtain ⟨e1, e2⟩ := p9
    subst e2
    replace e1 := e1.symm
    subst e1
    rw [R7 0 (by omega)]
    change RN 52 25 _ _ _ 0 0 _
    dsimp only [Option.toList, List.cons_append, List.nil_append]
    refine r_callv (j2 := 54) hm rfl rfl rfl rfl rfl rfl (by first | assumption | exact (g1.1 _).trans rfl | exact I1 _ (by omega) | exact I2 _ (by omega) | exact I3 _ (by omega) | exact I4 _ (by omega)) (Nat.le_of_ble_eq_true rfl) (Nat.le_of_ble_eq_true rfl) rfl ⟨Nat.le_of_ble_eq_true rfl, Nat.le_of_ble_eq_true rfl, Nat.le_of_ble_eq_true rfl, Nat.le_of_ble_eq_true rfl, Nat.le_of_ble_eq_true rfl⟩ rfl (c_settle g C (Or.inl rfl) ht hR hok (by have := hok.2.2.2.2; unfold okStl at this; omega)) (fun v9 h9 p9 => ?_)
    obtain ⟨SA, yA, e1⟩ := p9
    subst e1
    replace g1 := SA.gg (putR_gg g (rfl : rff 294 8 = none))
    change RN 52 28 _ _ _ 0 0 _
    dsimp only [Option.toList, List.nil_append]
    refine r_aload_n hm rfl (k := ?_)
    refine r_iconst hm rfl (k := ?_)
    refine r_putI (hm := hm) (hf := rfl) (hd := rfl) (hs := (by first | assumption | exact (g1.1 _).trans rfl | exact I1 _ (by omega) | exact I2 _ (by omega) | exact I3 _ (by omega) | exact I4 _ (by omega))) (hfin := Or.inl rfl) (hz := fun _ => by omega) (k := ?_)
    refine r_aload_n hm rfl (k := ?_)
    refine r_getR (hm := hm) (hf := rfl) (hd := rfl) (hs := (by first | assumption | exact (g1.1 _).trans rfl | exact I1 _ (by omega) | exact I2 _ (by omega) | exact I3 _ (by omega) | exact I4 _ (by omega))) (hv := (by first | assumption | exact g1.2 _ _ _ rfl | exact hs10)) (k := ?_)
    refine r_areturn hm rfl rfl (Nat.le_of_ble_eq_true rfl) (Nat.le_of_ble_eq_true rfl) ?_
    have eR : ∀ a k, a ≠ 294 → (putI h9 28 10 1).2.2.1 a k = h.2.2.1 a k := fun a k e => by show h9.2.2.1 a k = _; rw [SA.2.1]; exact putR_ne (by omega)
    have eI : ∀ a k, (¬ regS 294 a k ∧ ¬ (a = 28 ∧ k = 10)) → (putI h9 28 10 1).2.1 a k = h.2.1 a k := fun a k e => by rw [putI_ne (by omega)]; exact SA.2.2 a k e.1
    have yB : SetC (putI h9 28 10 1) 294 29 S.1 (S.1.2.2.2 0) := yA.fr rfl (fun a k e1 e2 => putI_ne (by omega))
    refine ⟨⟨g1, C.fr (fun a k e => eR a k (by omega)) (fun a k e => eI a k (by unfold regS; omega)), hR.fr (fun i => eR _ _ (by omega)) (fun a k e1 e2 => eI a k (by unfold regS; omega)), fun v hv => (hV v hv).fr (fun i => eR _ _ (by omega)) (fun a k e1 e2 => eI a k (by unfold regS; omega)), fun v hv => (eI _ _ (by unfold regS; omega)).trans (hK v hv), (eI _ _ (by unfold regS; omega)).trans hG, Or.inr ⟨putI_eq, yB⟩, (eI _ _ (by unfold regS; omega)).trans hL, fun k hk => (eI _ _ (by unfold regS; omega)).trans (hB k hk), (eI _ _ (by unfold regS; omega)).trans hFl⟩, fun a k e => eI a k (by unfold regS; omega), yB, fun a k e1 e2 => eI a k (by unfold regS; omega), eR _ _ (by omega), rfl⟩
set_option maxRecDepth 8000 in
theorem c_beside {L : Nat} {h : Hp} {S : St} (I : InvC L h S) (ok : okS S) {vI w : Int} : RN 124 0 [some (.inr (.inr (some (28)))), some (.inl vI), some (.inl w)] [] h 0 0 (fun v h2 => InvC L h2 S ∧ FxC h h2 ∧ v = some (.inl (aBeside S vI w))) := by
  have hm : mrec 124 = some nM124 := rfl
  obtain ⟨g, C, hR, hV, hK, hG, hSt, hL, hB, hFl⟩ := id I
  have hok := ok.1
  have ht : isT 29 := Or.inl rfl
  obtain ⟨T1, T2, T3, T4, T5, T6, T7⟩ := g.tx ht
  obtain ⟨I0, I1, I2, I3, I4, J0, J1, J2, F0, F1, F2, F3, F4, P0, P1, P2⟩ := hR.use g ht
  obtain ⟨R1, R2, R3, R4, R5, R6, R7⟩ := id hR
  have n60 := hok.1
  have g1 := g
  refine r_aload_n hm rfl (k := ?_)
  refine r_iload_n hm rfl (k := ?_)
  refine r_callv (j2 := 123) hm rfl rfl rfl rfl rfl rfl (by first | assumption | exact (g1.1 _).trans rfl) (Nat.le_of_ble_eq_true rfl) (Nat.le_of_ble_eq_true rfl) rfl ⟨Nat.le_of_ble_eq_true rfl, Nat.le_of_ble_eq_true rfl, Nat.le_of_ble_eq_true rfl, Nat.le_of_ble_eq_true rfl, Nat.le_of_ble_eq_true rfl⟩ rfl (c_isKept I ok) (fun v9 h9 p9 => ?_)
  obtain ⟨e1, e2⟩ := p9
  subst e2
  replace e1 := e1.symm
  subst e1
  obtain ⟨b9, eb9, hb9⟩ := ite01 (p := (0 ≤ vI ∧ vI ≤ 2) ∧ S.2.2.1 vI.toNat = 1)
  rw [eb9]
  change RN 124 5 _ _ _ 0 0 _
  dsimp only [Option.toList, List.cons_append, List.nil_append]
  refine r_if_ne (t := 12) hm rfl rfl (fun c5 => ?_) (fun c5 => ?_)
  · obtain ⟨q, rfl⟩ := Int.eq_ofNat_of_zero_le (show 0 ≤ vI by omega)
    have hH : 8 ≤ S.1.2.2.2 0 ∧ S.1.2.2.2 0 ≤ 60 := by have := hok.2.2.2.2; unfold okStl at this; omega
    have oky := ok.2.1 q (by omega)
    have hHy : 8 ≤ (S.2.1 q).2.2.2 0 ∧ (S.2.1 q).2.2.2 0 ≤ 60 := by have := oky.2.2.2.2; unfold okStl at this; omega
    obtain ⟨V1, V2, V3, V4, V5, V6, V7⟩ := g.tx (isT_ver (v := q) (by omega))
    refine r_iload_n hm rfl (k := ?_)
    refine r_if_lt (t := 21) hm rfl rfl (fun c13 => ?_) (fun c13 => ?_)
    · refine r_sipush hm rfl (k := ?_)
      refine r_ireturn hm rfl rfl (by rfl) (Nat.le_of_ble_eq_true rfl) (Nat.le_of_ble_eq_true rfl) ?_
      refine ⟨I, FxC.refl, ?_⟩
      unfold aBeside
      simp only [Int.toNat_natCast] at hb9 ⊢
      rw [if_neg (by omega), if_pos (by omega)]
    · refine r_iload_n hm rfl (k := ?_)
      refine r_iconst hm rfl (k := ?_)
      refine r_icmp_le (t := 25) hm rfl rfl (fun c18 => ?_) (fun c18 => ?_)
      · refine r_aload_n hm rfl (k := ?_)
        refine r_getR (hm := hm) (hf := rfl) (hd := rfl) (hs := (by first | assumption | exact (g1.1 _).trans rfl)) (hv := (by first | assumption | exact g1.2 _ _ _ rfl | exact g1.ver (by omega) | exact V6)) (k := ?_)
        refine r_aload_n hm rfl (k := ?_)
        refine r_getR (hm := hm) (hf := rfl) (hd := rfl) (hs := (by first | assumption | exact (g1.1 _).trans rfl)) (hv := (by first | assumption | exact g1.2 _ _ _ rfl | exact g1.ver (by omega) | exact V6)) (k := ?_)
        refine r_iload_n hm rfl (k := ?_)
        refine r_aald (hm := hm) (hf := rfl) (hs := (by first | assumption | exact (g1.1 _).trans rfl)) (hkd := by decide) (hi := rfl) (hn := (by omega)) (hv := (by first | assumption | exact g1.2 _ _ _ rfl | exact g1.ver (by omega) | exact V6)) (k := ?_)
        refine r_aload_n hm rfl (k := ?_)
        refine r_getR (hm := hm) (hf := rfl) (hd := rfl) (hs := (by first | assumption | exact (g1.1 _).trans rfl)) (hv := (by first | assumption | exact g1.2 _ _ _ rfl | exact g1.ver (by omega) | exact V6)) (k := ?_)
        refine r_iload_n hm rfl (k := ?_)
        refine r_aald (hm := hm) (hf := rfl) (hs := (by first | assumption | exact (g1.1 _).trans rfl)) (hkd := by decide) (hi := rfl) (hn := (by omega)) (hv := (by first | assumption | exact g1.2 _ _ _ rfl | exact g1.ver (by omega) | exact V6)) (k := ?_)
        refine r_getR (hm := hm) (hf := rfl) (hd := rfl) (hs := (by first | assumption | exact (g1.1 _).trans rfl)) (hv := (by first | assumption | exact g1.2 _ _ _ rfl | exact g1.ver (by omega) | exact V6)) (k := ?_)
        refine r_callv (j2 := 53) hm rfl rfl rfl rfl rfl rfl (by first | assumption | exact (g1.1 _).trans rfl) (Nat.le_of_ble_eq_true rfl) (Nat.le_of_ble_eq_true rfl) rfl ⟨Nat.le_of_ble_eq_true rfl, Nat.le_of_ble_eq_true rfl, Nat.le_of_ble_eq_true rfl, Nat.le_of_ble_eq_true rfl, Nat.le_of_ble_eq_true rfl⟩ rfl (c_height (s := 353 + 244 * q + 2) V3 V4 V7) (fun v9 h9 p9 => ?_)
        obtain ⟨e1, e2⟩ := p9
        subst e2
        replace e1 := e1.symm
        subst e1
        rw [(hV q (by omega)).2.2.2.2.2.2 0 (by omega)]
        change RN 124 47 _ _ _ 0 0 _
        dsimp only [Option.toList, List.cons_append, List.nil_append]
        refine r_callv (j2 := 54) hm rfl rfl rfl rfl rfl rfl (by first | assumption | exact (g1.1 _).trans rfl) (Nat.le_of_ble_eq_true rfl) (Nat.le_of_ble_eq_true rfl) rfl ⟨Nat.le_of_ble_eq_true rfl, Nat.le_of_ble_eq_true rfl, Nat.le_of_ble_eq_true rfl, Nat.le_of_ble_eq_true rfl, Nat.le_of_ble_eq_true rfl⟩ rfl (c_settle (s := 319) g C (Or.inr rfl) (isT_ver (v := q) (by omega)) (hV q (by omega)) oky hHy) (fun v9 hA p9 => ?_)
        obtain ⟨SA, yA, e1⟩ := p9
        subst e1
        replace g1 := SA.gg (putR_gg g (rfl : rff 319 8 = none))
        have eR : ∀ a9 k, a9 ≠ 319 → hA.2.2.1 a9 k = h.2.2.1 a9 k := fun a9 k e => by rw [SA.2.1]; exact putR_ne (by omega)
        have I2 : InvC L hA S := I.fr g1 eR (fun a9 k e => SA.2.2 a9 k (fun z => e (by unfold regS at z; unfold idle; omega)))
        have fx2 : FxC h hA := fun a9 k e => SA.2.2 a9 k (by unfold regS; omega)
        have qF := c_freshSetting9 I2 ok
        change RN 124 50 _ _ _ 0 0 _
        dsimp only [Option.toList, List.nil_append]
        refine r_aload_n hm rfl (k := ?_)
        refine r_callv (j2 := 52) hm rfl rfl rfl rfl rfl rfl (by first | assumption | exact (g1.1 _).trans rfl) (Nat.le_of_ble_eq_true rfl) (Nat.le_of_ble_eq_true rfl) rfl ⟨Nat.le_of_ble_eq_true rfl, Nat.le_of_ble_eq_true rfl, Nat.le_of_ble_eq_true rfl, Nat.le_of_ble_eq_true rfl, Nat.le_of_ble_eq_true rfl⟩ rfl (qF) (fun v9 hB p9 => ?_)
        obtain ⟨I3, fx3, yS, m319, r319, e1⟩ := p9
        subst e1
        replace g1 := I3.1
        have yA2 := yA.fr r319 m319
        have qC := c_chgAll (w := w) g1 (Or.inl rfl : isS 294) (Or.inr rfl : isS 319) ht (isT_ver (v := q) (by omega)) I3.2.2.1 (I3.2.2.2.1 q (by omega)) hok (ok.2.1 q (by omega)) yS yA2 hH hHy
        change RN 124 54 _ _ _ 0 0 _
        dsimp only [Option.toList, List.cons_append, List.nil_append]
        refine r_aload_n hm rfl (k := ?_)
        refine r_getR (hm := hm) (hf := rfl) (hd := rfl) (hs := (by first | assumption | exact (g1.1 _).trans rfl)) (hv := (by first | assumption | exact g1.2 _ _ _ rfl | exact g1.ver (by omega) | exact V6)) (k := ?_)
        refine r_iload_n hm rfl (k := ?_)
        refine r_calls (j2 := 125) hm rfl rfl rfl rfl rfl rfl (Nat.le_of_ble_eq_true rfl) (Nat.le_of_ble_eq_true rfl) rfl ⟨Nat.le_of_ble_eq_true rfl, Nat.le_of_ble_eq_true rfl, Nat.le_of_ble_eq_true rfl, Nat.le_of_ble_eq_true rfl, Nat.le_of_ble_eq_true rfl⟩ rfl (qC) (fun v9 h9 p9 => ?_)
        obtain ⟨e1, e2⟩ := p9
        subst e2
        replace e1 := e1.symm
        subst e1
        change RN 124 62 _ _ _ 0 0 _
        dsimp only [Option.toList, List.cons_append, List.nil_append]
        refine r_ireturn hm rfl rfl (by rfl) (Nat.le_of_ble_eq_true rfl) (Nat.le_of_ble_eq_true rfl) ?_
        refine ⟨I3, fx2.trans fx3, ?_⟩
        unfold aBeside
        simp only [Int.toNat_natCast] at hb9 ⊢
        rw [if_neg (by omega), if_neg (by omega)]
      · refine r_sipush hm rfl (k := ?_)
        refine r_ireturn hm rfl rfl (by rfl) (Nat.le_of_ble_eq_true rfl) (Nat.le_of_ble_eq_true rfl) ?_
        refine ⟨I, FxC.refl, ?_⟩
        unfold aBeside
        simp only [Int.toNat_natCast] at hb9 ⊢
        rw [if_neg (by omega), if_pos (by omega)]
  · refine r_sipush hm rfl (k := ?_)
    refine r_ireturn hm rfl rfl (by rfl) (Nat.le_of_ble_eq_true rfl) (Nat.le_of_ble_eq_true rfl) ?_
    refine ⟨I, FxC.refl, ?_⟩
    unfold aBeside
    rw [if_pos (by omega)]
