/-! the class: settle -/
theorem LyC.same {S : Nat → Nat → Prop} {h h2 : Hp} {s : Nat} {x : Tx} {lt : LT} {i : Nat} {pp : Nat → Nat → Int} (y : LyC h s x lt i pp) (m : Sm S h h2) (hS : ∀ a k, S a k → a < s + 9 ∨ s + 11 < a) : LyC h2 s x lt i pp := by
  refine ⟨fun q hq => ?_, fun q k hq hk => ?_⟩
  · rw [m.2.2 _ _ (fun z => by have := hS _ _ z; omega)]; exact y.1 q hq
  · rw [m.2.2 _ _ (fun z => by have := hS _ _ z; omega), m.2.2 _ _ (fun z => by have := hS _ _ z; omega)]; exact y.2 q k hq hk
theorem NmR.same {S : Nat → Nat → Prop} {h h2 : Hp} {n : Nat} {x : Tx} {i : Nat} (y : NmR h n x i) (m : Sm S h h2) (hS : ∀ a k, S a k → a < n + 1 ∨ n + 4 < a) : NmR h2 n x i := by
  intro q hq
  obtain ⟨m1, m2, m3, m4⟩ := y q hq
  refine ⟨?_, ?_, ?_, fun k hk => ?_⟩
  · rw [m.2.2 _ _ (fun z => by have := hS _ _ z; omega)]; exact m1
  · rw [m.2.2 _ _ (fun z => by have := hS _ _ z; omega)]; exact m2
  · rw [m.2.2 _ _ (fun z => by have := hS _ _ z; omega)]; exact m3
  · rw [m.2.2 _ _ (fun z => by have := hS _ _ z; omega)]; exact m4 k hk
/-- what stands when round r begins -/
def Bs (h : Hp) (s : Nat) (x : Tx) (H : Int) (r : Nat) : Prop := (∀ q, q < x.1 → h.2.1 (s + 8) q = (fst x q : Int)) ∧ h.2.1 s 12 = (fst x x.1 : Int) ∧ PcK h (s + 21) x (ltR x H r) x.1 0 ∧ PcK h (s + 24) x (mnt x) x.1 0 ∧ NmR h (s + 14) x x.1 ∧ (∀ j, j < r → PcK h (282 + j) x (ltR x H j) x.1 0) ∧ ∀ j, j < r → h.2.1 (s + 20) j = pgs x H j
theorem Bs.same {S : Nat → Nat → Prop} {h h2 : Hp} {s : Nat} {x : Tx} {H : Int} {r : Nat} (y : Bs h s x H r) (m : Sm S h h2) (hS : ∀ a k, S a k → a ≠ s + 8 ∧ (a = s → k ≠ 12) ∧ a ≠ s + 21 ∧ a ≠ s + 24 ∧ (a < s + 15 ∨ s + 18 < a) ∧ (a < 282 ∨ 282 + r ≤ a) ∧ (a = s + 20 → r ≤ k)) : Bs h2 s x H r := by
  obtain ⟨b1, b2, b3, b4, b5, b6, b7⟩ := y
  refine ⟨fun q hq => ?_, ?_, b3.same m (fun a k z => by have := hS _ _ z; omega), b4.same m (fun a k z => by have := hS _ _ z; omega), b5.same m (fun a k z => by have := hS _ _ z; omega), fun j hj => (b6 j hj).same m (fun a k z => by have := hS _ _ z; omega), fun j hj => ?_⟩
  · rw [m.2.2 _ _ (fun z => by have := hS _ _ z; omega)]; exact b1 q hq
  · rw [m.2.2 _ _ (fun z => by have := hS _ _ z; omega)]; exact b2
  · rw [m.2.2 _ _ (fun z => by have := hS _ _ z; omega)]; exact b7 j hj
/-- the Setting at s stands for the Text at t, x, set at height H -/
def SetC (h : Hp) (s t : Nat) (x : Tx) (H : Int) : Prop := h.2.2.1 s 8 = some t ∧ h.2.1 s 9 = ocm x H (fin x H) ∧ h.2.1 s 10 = (fin x H : Int) ∧ h.2.1 s 11 = prd x H (fin x H) ∧ (∀ r, r ≤ fin x H → h.2.1 (s + 20) r = pgs x H r) ∧ PgC h (s + 2) x H (psf x H (ltR x H (fin x H))) ∧ LyC h s x (ltR x H (fin x H)) x.1 (ppf x H (ltR x H (fin x H))) ∧ (∀ q, q < x.1 → h.2.1 (s + 8) q = (fst x q : Int)) ∧ PcK h (s + 21) x (ltR x H (fin x H)) x.1 0 ∧ PcK h (s + 23) x (nct x (ppf x H (ltR x H (fin x H)))) x.1 0 ∧ PcK h (s + 24) x (mnt x) x.1 0 ∧ NmR h (s + 14) x x.1
theorem cpy_sm {h : Hp} {a b sp dp n : Nat} : Sm (fun c _ => c = b) h (cpyI h a b sp dp n) := ⟨rfl, rfl, fun c k e => if_neg (fun z => e z.1)⟩
theorem cpy_at {h : Hp} {a b n k : Nat} (hk : k < n) : (cpyI h a b 0 0 n).2.1 b k = h.2.1 a k := by
  show (if b = b ∧ 0 ≤ k ∧ k < 0 + n then h.2.1 a (0 + (k - 0)) else h.2.1 b k) = _
  rw [if_pos ⟨rfl, by omega, by omega⟩, show 0 + (k - 0) = k by omega]
theorem cpy_pc {h : Hp} {a b : Nat} {x : Tx} {F : LT} {z : Int} (hz : z = (fst x x.1 : Int)) (p : PcK h a x F x.1 0) : PcK (cpyI h a b (0 : Int).toNat (0 : Int).toNat z.toNat) b x F x.1 0 := by
  subst hz
  refine ⟨fun q k hq hk => ?_, fun k hk => absurd hk (Nat.not_lt_zero _)⟩
  have e := fst_lt (x := x) hq hk
  rw [show (0 : Int).toNat = 0 from rfl, Int.toNat_natCast, cpy_at e]
  exact p.1 q k hq hk
theorem putR_gg {L : Nat} {h : Hp} {a k : Nat} {v : Option Nat} (g : GG L h) (hr : rff a k = none) : GG L (putR h a k v) := by
  refine ⟨g.1, fun b q c e => ?_⟩
  show (if b = a ∧ q = k then v else h.2.2.1 b q) = some c
  rw [if_neg (fun z => by rw [z.1, z.2, hr] at e; cases e)]
  exact g.2 b q c e
theorem putR_ne {h : Hp} {a k b q : Nat} {v : Option Nat} (e : b ≠ a ∨ q ≠ k) : (putR h a k v).2.2.1 b q = h.2.2.1 b q := if_neg (fun z => by omega)
theorem putR_eq {h : Hp} {a k : Nat} {v : Option Nat} : (putR h a k v).2.2.1 a k = v := if_pos ⟨rfl, rfl⟩
theorem putR_itm {h : Hp} {a k t i : Nat} {v : Option Nat} (e : t + 1 ≠ a) : itm (putR h a k v) t i = itm h t i := by
  unfold itm
  rw [putR_ne (by omega)]
theorem putR_repC {h : Hp} {a k t : Nat} {v : Option Nat} {x : Tx} (e : t + 1 ≠ a) (R : RepC h t x) : RepC (putR h a k v) t x := by
  obtain ⟨R1, R2, R3, R4, R5, R6, R7⟩ := R
  refine ⟨R1, R2, fun i hi => ?_, fun i j hi hj => ?_, fun f i hf hi => ?_, fun f i k hf hi hk => ?_, R7⟩
  · rw [putR_itm e, putR_ne (by omega)]; exact R3 i hi
  · rw [putR_itm e, putR_itm e]; exact R4 i j hi hj
  · rw [putR_itm e]; exact R5 f i hf hi
  · rw [putR_itm e]; exact R6 f i k hf hi hk
theorem putR_cn {h : Hp} {a k : Nat} {v : Option Nat} (e : 28 ≤ a) (C : CN h) : CN (putR h a k v) := by
  obtain ⟨C1, C2, C3, C4, C5⟩ := C
  exact ⟨C1, C2, C3, C4, fun i hi => by rw [putR_ne (by omega)]; exact C5 i hi⟩
def regS (s : Nat) (a _k : Nat) : Prop := (s ≤ a ∧ a ≤ s + 24) ∨ (282 ≤ a ∧ a ≤ 293)
theorem regS_T {s t : Nat} (hS : isS s) (ht : isT t) : ∀ a k, regS s a k → a < t ∨ t + 244 ≤ a := by
  intro a k q
  unfold regS at q
  rcases hS with rfl | rfl <;> rcases ht with rfl | rfl | rfl | rfl <;> omega
theorem regS_28 {s : Nat} (hS : isS s) : ∀ a k, regS s a k → 28 ≤ a := by
  intro a k q
  unfold regS at q
  rcases hS with rfl | rfl <;> omega
theorem isS_N {s : Nat} (hS : isS s) : isN (s + 14) := by
  rcases hS with rfl | rfl
  · right; left; rfl
  · right; right; rfl
theorem isS_8 {s : Nat} (hS : isS s) : rff s 8 = none ∧ 294 ≤ s := by
  rcases hS with rfl | rfl <;> exact ⟨rfl, by omega⟩
theorem rnd_s {x : Tx} {H : Int} {r : Nat} (hr : r < 11) (e : lik x H r = -1) : rnd x H (11 - r) r = rnd x H (11 - (r + 1)) (r + 1) := by
  rw [show 11 - r = (11 - (r + 1)) + 1 by omega]
  show (if _ then _ else _) = _
  rw [if_pos e]
theorem rnd_n {x : Tx} {H : Int} {r : Nat} (e : lik x H r ≠ -1) : rnd x H (11 - r) r = r := by
  rcases Nat.eq_zero_or_pos (11 - r) with z | z
  · rw [z]; rfl
  · rw [show 11 - r = (11 - r - 1) + 1 by omega]
    show (if _ then _ else _) = _
    rw [if_neg e]
set_option maxRecDepth 8000 in
theorem c_settle {L : Nat} {h : Hp} {s t : Nat} {x : Tx} {H : Int} (g : GG L h) (C : CN h) (hS : isS s) (ht : isT t) (hR : RepC h t x) (hok : okTx x) (hH : 8 ≤ H ∧ H ≤ 60) : RN 54 0 [some (.inr (.inr (some (s)))), some (.inr (.inr (some (t)))), some (.inl H), none, none] [] h 0 0 (fun v h2 => Sm (regS s) (putR h s 8 (some t)) h2 ∧ SetC h2 s t x H ∧ v = none) := by
  have hm : mrec 54 = some nM54 := rfl
  have n60 := hok.1
  have hf := fst_le hok x.1 (Nat.le_refl _)
  have t27 : t ≠ 27 := by rcases ht with rfl | rfl | rfl | rfl <;> omega
  have Z0 := (g.st hS).1
  refine r_aload_n hm rfl (k := ?_)
  refine r_aload_n hm rfl (k := ?_)
  refine r_putR (hm := hm) (hf := rfl) (hd := rfl) (hs := (by first | assumption | exact Z0 | exact Z14 | exact Z20 | exact Z21 | exact Z22 | exact G1 | exact RW.1 | exact (RW.2 _ (by omega)).1)) (hfin := Or.inl rfl) (h27 := fun z9 => t27 (Option.some.inj z9)) (k := ?_)
  obtain ⟨r8, s294⟩ := isS_8 hS
  have g0 : GG L (putR h s 8 (some t)) := putR_gg g r8
  have t1 : t + 1 ≠ s := by have := isS_T hS ht (a := s) (by omega) (by omega); omega
  have hR0 : RepC (putR h s 8 (some t)) t x := putR_repC t1 hR
  have C0 : CN (putR h s 8 (some t)) := putR_cn (by omega) C
  have S1 : Sm (regS s) (putR h s 8 (some t)) (putR h s 8 (some t)) := Sm.refl
  have g1 := S1.gg g0
  have hR1 := S1.repC (regS_T hS ht) hR0
  have C1 := S1.cn (regS_28 hS) C0
  obtain ⟨G1, G2, G8, G9, G10, G11, G12, G13, K0, K1, K2, K3, K4, K5, K6, S28, G21⟩ := g1.ly hS
  obtain ⟨Z0, Z14, Z17, Z20, Z21, Z22, Z23, Z24, W0, W1, W2, W3, W4, W5, W6, W7, Y2⟩ := g1.st hS
  have RW := g1.rows
  have W8 : (putR h s 8 (some t)).2.2.1 s 8 = some t := by rw [S1.2.1]; exact putR_eq
  have qCA := c_countAll g0 (isS_N hS) ht hR0 C0 hok
  refine r_aload_n hm rfl (k := ?_)
  refine r_getR (hm := hm) (hf := rfl) (hd := rfl) (hs := (by first | assumption | exact Z0 | exact Z14 | exact Z20 | exact Z21 | exact Z22 | exact G1 | exact RW.1 | exact (RW.2 _ (by omega)).1)) (hv := (by first | exact putI_eq | exact (putI_ne (by omega)).trans (by first | exact putI_eq | exact (putI_ne (by omega)).trans (by first | first | assumption | exact W0 | exact W1 | exact W2 | exact W3 | exact W4 | exact W5 | exact W8 | exact b12 | exact bs.2.1 | exact (RW.2 _ (by omega)).2) | first | assumption | exact W0 | exact W1 | exact W2 | exact W3 | exact W4 | exact W5 | exact W8 | exact b12 | exact bs.2.1 | exact (RW.2 _ (by omega)).2) | first | assumption | exact W0 | exact W1 | exact W2 | exact W3 | exact W4 | exact W5 | exact W8 | exact b12 | exact bs.2.1 | exact (RW.2 _ (by omega)).2)) (k := ?_)
  refine r_aload_n hm rfl (k := ?_)
  refine r_getR (hm := hm) (hf := rfl) (hd := rfl) (hs := (by first | assumption | exact Z0 | exact Z14 | exact Z20 | exact Z21 | exact Z22 | exact G1 | exact RW.1 | exact (RW.2 _ (by omega)).1)) (hv := (by first | exact putI_eq | exact (putI_ne (by omega)).trans (by first | exact putI_eq | exact (putI_ne (by omega)).trans (by first | first | assumption | exact W0 | exact W1 | exact W2 | exact W3 | exact W4 | exact W5 | exact W8 | exact b12 | exact bs.2.1 | exact (RW.2 _ (by omega)).2) | first | assumption | exact W0 | exact W1 | exact W2 | exact W3 | exact W4 | exact W5 | exact W8 | exact b12 | exact bs.2.1 | exact (RW.2 _ (by omega)).2) | first | assumption | exact W0 | exact W1 | exact W2 | exact W3 | exact W4 | exact W5 | exact W8 | exact b12 | exact bs.2.1 | exact (RW.2 _ (by omega)).2)) (k := ?_)
  refine r_callv (j2 := 33) hm rfl rfl rfl rfl rfl rfl (by first | assumption | exact Z0 | exact Z14 | exact Z20 | exact Z21 | exact Z22 | exact G1 | exact RW.1 | exact (RW.2 _ (by omega)).1) (Nat.le_of_ble_eq_true rfl) (Nat.le_of_ble_eq_true rfl) rfl ⟨Nat.le_of_ble_eq_true rfl, Nat.le_of_ble_eq_true rfl, Nat.le_of_ble_eq_true rfl, Nat.le_of_ble_eq_true rfl, Nat.le_of_ble_eq_true rfl⟩ rfl (qCA) (fun v9 hA p9 => ?_)
  obtain ⟨SA, nA, e1⟩ := p9
  subst e1
  replace S1 : Sm (regS s) (putR h s 8 (some t)) hA := S1.trans (SA.mono (fun a k z => by unfold regN at z; unfold regS; omega))
  have g1 := S1.gg g0
  have hR1 := S1.repC (regS_T hS ht) hR0
  have C1 := S1.cn (regS_28 hS) C0
  obtain ⟨G1, G2, G8, G9, G10, G11, G12, G13, K0, K1, K2, K3, K4, K5, K6, S28, G21⟩ := g1.ly hS
  obtain ⟨Z0, Z14, Z17, Z20, Z21, Z22, Z23, Z24, W0, W1, W2, W3, W4, W5, W6, W7, Y2⟩ := g1.st hS
  have RW := g1.rows
  have W8 : hA.2.2.1 s 8 = some t := by rw [S1.2.1]; exact putR_eq
  have qB := c_stBegin g1 hS ht hR1 hok W8
  change RN 54 16 _ _ _ 0 0 _
  dsimp only [Option.toList, List.nil_append]
  refine r_aload_n hm rfl (k := ?_)
  refine r_callv (j2 := 55) hm rfl rfl rfl rfl rfl rfl (by first | assumption | exact Z0 | exact Z14 | exact Z20 | exact Z21 | exact Z22 | exact G1 | exact RW.1 | exact (RW.2 _ (by omega)).1) (Nat.le_of_ble_eq_true rfl) (Nat.le_of_ble_eq_true rfl) rfl ⟨Nat.le_of_ble_eq_true rfl, Nat.le_of_ble_eq_true rfl, Nat.le_of_ble_eq_true rfl, Nat.le_of_ble_eq_true rfl, Nat.le_of_ble_eq_true rfl⟩ rfl (qB) (fun v9 hB p9 => ?_)
  obtain ⟨SB, bF, b12, bM, bL, e1⟩ := p9
  subst e1
  replace S1 : Sm (regS s) (putR h s 8 (some t)) hB := S1.trans (SB.mono (fun a k z => by unfold regS; omega))
  have b0 : Bs hB s x H 0 := ⟨bF, b12, bL, bM, nA.same SB (fun a k z => by omega), fun j hj => absurd hj (Nat.not_lt_zero _), fun j hj => absurd hj (Nat.not_lt_zero _)⟩
  clear bF b12 bM bL nA
  change RN 54 20 _ _ _ 0 0 _
  dsimp only [Option.toList, List.nil_append]
  refine r_iconst hm rfl (k := ?_)
  refine r_istore_n hm rfl (k := ?_)
  suffices LP : ∀ (d r : Nat) (h1 : Hp) (z4 : Option Vl), r + d = 11 → Sm (regS s) (putR h s 8 (some t)) h1 → Bs h1 s x H r → rnd x H (11 - r) r = fin x H → RN 54 22 [some (.inr (.inr (some (s)))), some (.inr (.inr (some (t)))), some (.inl H), some (.inl (r : Int)), z4] [] h1 0 0 (fun v h2 => Sm (regS s) (putR h s 8 (some t)) h2 ∧ SetC h2 s t x H ∧ v = none) from LP 11 0 _ _ rfl S1 b0 rfl
  clear b0 S1
  refine fun d => Nat.strongRecOn d (fun d ih => ?_)
  intro r h1 z4 hd S1 bs hfin
  have g1 := S1.gg g0
  have hR1 := S1.repC (regS_T hS ht) hR0
  have C1 := S1.cn (regS_28 hS) C0
  obtain ⟨G1, G2, G8, G9, G10, G11, G12, G13, K0, K1, K2, K3, K4, K5, K6, S28, G21⟩ := g1.ly hS
  obtain ⟨Z0, Z14, Z17, Z20, Z21, Z22, Z23, Z24, W0, W1, W2, W3, W4, W5, W6, W7, Y2⟩ := g1.st hS
  have RW := g1.rows
  have W8 : h1.2.2.1 s 8 = some t := by rw [S1.2.1]; exact putR_eq
  obtain ⟨bF, b12, bL, bM, bN, bW, bP⟩ := id bs
  refine r_iload_n hm rfl (k := ?_)
  refine r_bipush hm rfl (k := ?_)
  refine r_icmp_gt (t := 164) hm rfl rfl (fun c25 => ?_) (fun c25 => ?_)
  · exfalso; omega
  · refine r_aload_n hm rfl (k := ?_)
    refine r_iload_n hm rfl (k := ?_)
    refine r_putI (hm := hm) (hf := rfl) (hd := rfl) (hs := (by first | assumption | exact Z0 | exact Z14 | exact Z20 | exact Z21 | exact Z22 | exact G1 | exact RW.1 | exact (RW.2 _ (by omega)).1)) (hfin := Or.inl rfl) (hz := fun q9 => absurd q9 (by decide)) (k := ?_)
    refine r_aload_n hm rfl (k := ?_)
    refine r_getR (hm := hm) (hf := rfl) (hd := rfl) (hs := (by first | assumption | exact Z0 | exact Z14 | exact Z20 | exact Z21 | exact Z22 | exact G1 | exact RW.1 | exact (RW.2 _ (by omega)).1)) (hv := (by first | exact putI_eq | exact (putI_ne (by omega)).trans (by first | exact putI_eq | exact (putI_ne (by omega)).trans (by first | first | assumption | exact W0 | exact W1 | exact W2 | exact W3 | exact W4 | exact W5 | exact W8 | exact b12 | exact bs.2.1 | exact (RW.2 _ (by omega)).2) | first | assumption | exact W0 | exact W1 | exact W2 | exact W3 | exact W4 | exact W5 | exact W8 | exact b12 | exact bs.2.1 | exact (RW.2 _ (by omega)).2) | first | assumption | exact W0 | exact W1 | exact W2 | exact W3 | exact W4 | exact W5 | exact W8 | exact b12 | exact bs.2.1 | exact (RW.2 _ (by omega)).2)) (k := ?_)
    refine r_iconst hm rfl (k := ?_)
    refine r_aload_n hm rfl (k := ?_)
    refine r_getR (hm := hm) (hf := rfl) (hd := rfl) (hs := (by first | assumption | exact Z0 | exact Z14 | exact Z20 | exact Z21 | exact Z22 | exact G1 | exact RW.1 | exact (RW.2 _ (by omega)).1)) (hv := (by first | exact putI_eq | exact (putI_ne (by omega)).trans (by first | exact putI_eq | exact (putI_ne (by omega)).trans (by first | first | assumption | exact W0 | exact W1 | exact W2 | exact W3 | exact W4 | exact W5 | exact W8 | exact b12 | exact bs.2.1 | exact (RW.2 _ (by omega)).2) | first | assumption | exact W0 | exact W1 | exact W2 | exact W3 | exact W4 | exact W5 | exact W8 | exact b12 | exact bs.2.1 | exact (RW.2 _ (by omega)).2) | first | assumption | exact W0 | exact W1 | exact W2 | exact W3 | exact W4 | exact W5 | exact W8 | exact b12 | exact bs.2.1 | exact (RW.2 _ (by omega)).2)) (k := ?_)
    refine r_iload_n hm rfl (k := ?_)
    refine r_aald (hm := hm) (hf := rfl) (hs := (by first | assumption | exact Z0 | exact Z14 | exact Z20 | exact Z21 | exact Z22 | exact G1 | exact RW.1 | exact (RW.2 _ (by omega)).1)) (hkd := by decide) (kk := r) (hi := by omega) (hn := (by omega)) (hv := (by first | exact putI_eq | exact (putI_ne (by omega)).trans (by first | exact putI_eq | exact (putI_ne (by omega)).trans (by first | first | assumption | exact W0 | exact W1 | exact W2 | exact W3 | exact W4 | exact W5 | exact W8 | exact b12 | exact bs.2.1 | exact (RW.2 _ (by omega)).2) | first | assumption | exact W0 | exact W1 | exact W2 | exact W3 | exact W4 | exact W5 | exact W8 | exact b12 | exact bs.2.1 | exact (RW.2 _ (by omega)).2) | first | assumption | exact W0 | exact W1 | exact W2 | exact W3 | exact W4 | exact W5 | exact W8 | exact b12 | exact bs.2.1 | exact (RW.2 _ (by omega)).2)) (k := ?_)
    refine r_iconst hm rfl (k := ?_)
    refine r_aload_n hm rfl (k := ?_)
    refine r_getI (hm := hm) (hf := rfl) (hd := rfl) (hs := (by first | assumption | exact Z0 | exact Z14 | exact Z20 | exact Z21 | exact Z22 | exact G1 | exact RW.1 | exact (RW.2 _ (by omega)).1)) (hv := (by first | exact putI_eq | exact (putI_ne (by omega)).trans (by first | exact putI_eq | exact (putI_ne (by omega)).trans (by first | first | assumption | exact W0 | exact W1 | exact W2 | exact W3 | exact W4 | exact W5 | exact W8 | exact b12 | exact bs.2.1 | exact (RW.2 _ (by omega)).2) | first | assumption | exact W0 | exact W1 | exact W2 | exact W3 | exact W4 | exact W5 | exact W8 | exact b12 | exact bs.2.1 | exact (RW.2 _ (by omega)).2) | first | assumption | exact W0 | exact W1 | exact W2 | exact W3 | exact W4 | exact W5 | exact W8 | exact b12 | exact bs.2.1 | exact (RW.2 _ (by omega)).2)) (k := ?_)
    refine r_copy hm rfl rfl rfl rfl (by decide) (Nat.le_of_ble_eq_true rfl) (by omega) (by omega) (by omega) (by omega) (by omega) (by first | assumption | exact Z0 | exact Z14 | exact Z20 | exact Z21 | exact Z22 | exact G1 | exact RW.1 | exact (RW.2 _ (by omega)).1) (by first | assumption | exact Z0 | exact Z14 | exact Z20 | exact Z21 | exact Z22 | exact G1 | exact RW.1 | exact (RW.2 _ (by omega)).1) (by omega) (by omega) ?_
    refine RN.abs (fun h2 => Sm (regS s) (putR h s 8 (some t)) h2 ∧ Bs h2 s x H r ∧ h2.2.1 s 10 = (r : Int) ∧ PcK h2 (282 + r) x (ltR x H r) x.1 0) ⟨?_, ?_, ?_, ?_⟩ (fun h1 H9 => ?_)
    · exact (Sm.put S1 (by unfold regS; omega)).trans ((cpy_sm (b := 282 + r)).mono (fun a k z => by unfold regS; omega))
    · exact (bs.same (Sm.put (S := fun a k => a = s ∧ k = 10) Sm.refl (by omega)) (fun a k z => by omega)).same (cpy_sm (b := 282 + r)) (fun a k z => by omega)
    · exact ((cpy_sm (b := 282 + r)).2.2 _ _ (by omega)).trans putI_eq
    · exact cpy_pc rfl (bL.ne (by omega))
    clear bs bF b12 bL bM bN bW bP
    obtain ⟨S1, bs, e10, bR⟩ := H9
    have g1 := S1.gg g0
    have hR1 := S1.repC (regS_T hS ht) hR0
    have C1 := S1.cn (regS_28 hS) C0
    obtain ⟨G1, G2, G8, G9, G10, G11, G12, G13, K0, K1, K2, K3, K4, K5, K6, S28, G21⟩ := g1.ly hS
    obtain ⟨Z0, Z14, Z17, Z20, Z21, Z22, Z23, Z24, W0, W1, W2, W3, W4, W5, W6, W7, Y2⟩ := g1.st hS
    have RW := g1.rows
    have W8 : h1.2.2.1 s 8 = some t := by rw [S1.2.1]; exact putR_eq
    obtain ⟨bF, b12, bL, bM, bN, bW, bP⟩ := id bs
    have qL := c_layOut g1 C1 hS ht hR1 hok (ltR_ok hok r) hH bF (fun q k hq hk => bL.1 q k hq hk)
    refine r_aload_n hm rfl (k := ?_)
    refine r_getR (hm := hm) (hf := rfl) (hd := rfl) (hs := (by first | assumption | exact Z0 | exact Z14 | exact Z20 | exact Z21 | exact Z22 | exact G1 | exact RW.1 | exact (RW.2 _ (by omega)).1)) (hv := (by first | exact putI_eq | exact (putI_ne (by omega)).trans (by first | exact putI_eq | exact (putI_ne (by omega)).trans (by first | first | assumption | exact W0 | exact W1 | exact W2 | exact W3 | exact W4 | exact W5 | exact W8 | exact b12 | exact bs.2.1 | exact (RW.2 _ (by omega)).2) | first | assumption | exact W0 | exact W1 | exact W2 | exact W3 | exact W4 | exact W5 | exact W8 | exact b12 | exact bs.2.1 | exact (RW.2 _ (by omega)).2) | first | assumption | exact W0 | exact W1 | exact W2 | exact W3 | exact W4 | exact W5 | exact W8 | exact b12 | exact bs.2.1 | exact (RW.2 _ (by omega)).2)) (k := ?_)
    refine r_aload_n hm rfl (k := ?_)
    refine r_getR (hm := hm) (hf := rfl) (hd := rfl) (hs := (by first | assumption | exact Z0 | exact Z14 | exact Z20 | exact Z21 | exact Z22 | exact G1 | exact RW.1 | exact (RW.2 _ (by omega)).1)) (hv := (by first | exact putI_eq | exact (putI_ne (by omega)).trans (by first | exact putI_eq | exact (putI_ne (by omega)).trans (by first | first | assumption | exact W0 | exact W1 | exact W2 | exact W3 | exact W4 | exact W5 | exact W8 | exact b12 | exact bs.2.1 | exact (RW.2 _ (by omega)).2) | first | assumption | exact W0 | exact W1 | exact W2 | exact W3 | exact W4 | exact W5 | exact W8 | exact b12 | exact bs.2.1 | exact (RW.2 _ (by omega)).2) | first | assumption | exact W0 | exact W1 | exact W2 | exact W3 | exact W4 | exact W5 | exact W8 | exact b12 | exact bs.2.1 | exact (RW.2 _ (by omega)).2)) (k := ?_)
    refine r_iload_n hm rfl (k := ?_)
    refine r_aload_n hm rfl (k := ?_)
    refine r_getR (hm := hm) (hf := rfl) (hd := rfl) (hs := (by first | assumption | exact Z0 | exact Z14 | exact Z20 | exact Z21 | exact Z22 | exact G1 | exact RW.1 | exact (RW.2 _ (by omega)).1)) (hv := (by first | exact putI_eq | exact (putI_ne (by omega)).trans (by first | exact putI_eq | exact (putI_ne (by omega)).trans (by first | first | assumption | exact W0 | exact W1 | exact W2 | exact W3 | exact W4 | exact W5 | exact W8 | exact b12 | exact bs.2.1 | exact (RW.2 _ (by omega)).2) | first | assumption | exact W0 | exact W1 | exact W2 | exact W3 | exact W4 | exact W5 | exact W8 | exact b12 | exact bs.2.1 | exact (RW.2 _ (by omega)).2) | first | assumption | exact W0 | exact W1 | exact W2 | exact W3 | exact W4 | exact W5 | exact W8 | exact b12 | exact bs.2.1 | exact (RW.2 _ (by omega)).2)) (k := ?_)
    refine r_callv (j2 := 58) hm rfl rfl rfl rfl rfl rfl (by first | assumption | exact Z0 | exact Z14 | exact Z20 | exact Z21 | exact Z22 | exact G1 | exact RW.1 | exact (RW.2 _ (by omega)).1) (Nat.le_of_ble_eq_true rfl) (Nat.le_of_ble_eq_true rfl) rfl ⟨Nat.le_of_ble_eq_true rfl, Nat.le_of_ble_eq_true rfl, Nat.le_of_ble_eq_true rfl, Nat.le_of_ble_eq_true rfl, Nat.le_of_ble_eq_true rfl⟩ rfl (qL) (fun v9 hA p9 => ?_)
    obtain ⟨SA, hqA, yA, e1⟩ := p9
    subst e1
    replace bs := bs.same SA (fun a k z => by omega)
    replace e10 : hA.2.1 s 10 = (r : Int) := (SA.2.2 _ _ (by omega)).trans e10
    replace bR := bR.same SA (fun a k z => by omega)
    replace S1 : Sm (regS s) (putR h s 8 (some t)) hA := S1.trans (SA.mono (fun a k z => by unfold regS; omega))
    have g1 := S1.gg g0
    have hR1 := S1.repC (regS_T hS ht) hR0
    have C1 := S1.cn (regS_28 hS) C0
    obtain ⟨G1, G2, G8, G9, G10, G11, G12, G13, K0, K1, K2, K3, K4, K5, K6, S28, G21⟩ := g1.ly hS
    obtain ⟨Z0, Z14, Z17, Z20, Z21, Z22, Z23, Z24, W0, W1, W2, W3, W4, W5, W6, W7, Y2⟩ := g1.st hS
    have RW := g1.rows
    have W8 : hA.2.2.1 s 8 = some t := by rw [S1.2.1]; exact putR_eq
    change RN 54 68 _ _ _ 0 0 _
    dsimp only [Option.toList, List.nil_append]
    refine r_aload_n hm rfl (k := ?_)
    refine r_getR (hm := hm) (hf := rfl) (hd := rfl) (hs := (by first | assumption | exact Z0 | exact Z14 | exact Z20 | exact Z21 | exact Z22 | exact G1 | exact RW.1 | exact (RW.2 _ (by omega)).1)) (hv := (by first | exact putI_eq | exact (putI_ne (by omega)).trans (by first | exact putI_eq | exact (putI_ne (by omega)).trans (by first | first | assumption | exact W0 | exact W1 | exact W2 | exact W3 | exact W4 | exact W5 | exact W8 | exact b12 | exact bs.2.1 | exact (RW.2 _ (by omega)).2) | first | assumption | exact W0 | exact W1 | exact W2 | exact W3 | exact W4 | exact W5 | exact W8 | exact b12 | exact bs.2.1 | exact (RW.2 _ (by omega)).2) | first | assumption | exact W0 | exact W1 | exact W2 | exact W3 | exact W4 | exact W5 | exact W8 | exact b12 | exact bs.2.1 | exact (RW.2 _ (by omega)).2)) (k := ?_)
    refine r_iload_n hm rfl (k := ?_)
    refine r_aload_n hm rfl (k := ?_)
    refine r_callv (j2 := 75) hm rfl rfl rfl rfl rfl rfl (by first | assumption | exact Z0 | exact Z14 | exact Z20 | exact Z21 | exact Z22 | exact G1 | exact RW.1 | exact (RW.2 _ (by omega)).1) (Nat.le_of_ble_eq_true rfl) (Nat.le_of_ble_eq_true rfl) rfl ⟨Nat.le_of_ble_eq_true rfl, Nat.le_of_ble_eq_true rfl, Nat.le_of_ble_eq_true rfl, Nat.le_of_ble_eq_true rfl, Nat.le_of_ble_eq_true rfl⟩ rfl (c_pagesInAll g1 hS ht hR1 hok W8 hqA) (fun v9 h9 p9 => ?_)
    obtain ⟨e1, e2⟩ := p9
    subst e2
    replace e1 := e1.symm
    subst e1
    change RN 54 77 _ _ _ 0 0 _
    dsimp only [Option.toList, List.cons_append, List.nil_append]
    refine r_iast (hm := hm) (hf := rfl) (h28 := (by omega)) (hs := (by first | assumption | exact Z0 | exact Z14 | exact Z20 | exact Z21 | exact Z22 | exact G1 | exact RW.1 | exact (RW.2 _ (by omega)).1)) (hi := rfl) (hn := (by omega)) (k := ?_)
    refine RN.abs (fun h2 => Sm (regS s) (putR h s 8 (some t)) h2 ∧ Bs h2 s x H r ∧ h2.2.1 s 10 = (r : Int) ∧ PcK h2 (282 + r) x (ltR x H r) x.1 0 ∧ PgC h2 (s + 2) x H (psf x H (ltR x H r)) ∧ LyC h2 s x (ltR x H r) x.1 (ppf x H (ltR x H r)) ∧ h2.2.1 (s + 20) r = pgs x H r) ⟨Sm.put S1 (by unfold regS; omega), bs.same (Sm.put (S := fun a k => a = s + 20 ∧ k = r) Sm.refl (by omega)) (fun a k z => by omega), (putI_ne (by omega)).trans e10, bR.ne (by omega), hqA.same (Sm.put (S := fun a k => a = s + 20) Sm.refl rfl) (fun a k z => by omega), yA.same (Sm.put (S := fun a k => a = s + 20) Sm.refl rfl) (fun a k z => by omega), putI_eq⟩ (fun h1 H9 => ?_)
    clear bs e10 bR hqA yA
    obtain ⟨S1, bs, e10, bR, hq, hy, eP⟩ := H9
    have g1 := S1.gg g0
    have hR1 := S1.repC (regS_T hS ht) hR0
    have C1 := S1.cn (regS_28 hS) C0
    obtain ⟨G1, G2, G8, G9, G10, G11, G12, G13, K0, K1, K2, K3, K4, K5, K6, S28, G21⟩ := g1.ly hS
    obtain ⟨Z0, Z14, Z17, Z20, Z21, Z22, Z23, Z24, W0, W1, W2, W3, W4, W5, W6, W7, Y2⟩ := g1.st hS
    have RW := g1.rows
    have W8 : h1.2.2.1 s 8 = some t := by rw [S1.2.1]; exact putR_eq
    have hp0 := (ly_ok hok (ltR_ok (H := H) hok r) hH x.1 (Nat.le_refl _)).2
    have qN := c_countNotes g1 hS ht hR1 hok W8 (pp := ppf x H (ltR x H r)) bs.1 (fun q k hq hk => (hy.2 q k hq hk).2) (fun q k hq hk => (hp0 q k hq hk).1)
    refine r_aload_n hm rfl (k := ?_)
    refine r_callv (j2 := 76) hm rfl rfl rfl rfl rfl rfl (by first | assumption | exact Z0 | exact Z14 | exact Z20 | exact Z21 | exact Z22 | exact G1 | exact RW.1 | exact (RW.2 _ (by omega)).1) (Nat.le_of_ble_eq_true rfl) (Nat.le_of_ble_eq_true rfl) rfl ⟨Nat.le_of_ble_eq_true rfl, Nat.le_of_ble_eq_true rfl, Nat.le_of_ble_eq_true rfl, Nat.le_of_ble_eq_true rfl, Nat.le_of_ble_eq_true rfl⟩ rfl (qN) (fun v9 hA p9 => ?_)
    obtain ⟨SA, nA, e1⟩ := p9
    subst e1
    replace bs := bs.same SA (fun a k z => by omega)
    replace e10 : hA.2.1 s 10 = (r : Int) := (SA.2.2 _ _ (by omega)).trans e10
    replace eP : hA.2.1 (s + 20) r = pgs x H r := (SA.2.2 _ _ (by omega)).trans eP
    replace bR := bR.same SA (fun a k z => by omega)
    replace hq := hq.same SA (fun a k z => by omega)
    replace hy := hy.same SA (fun a k z => by omega)
    replace S1 : Sm (regS s) (putR h s 8 (some t)) hA := S1.trans (SA.mono (fun a k z => by unfold regS; omega))
    have g1 := S1.gg g0
    have hR1 := S1.repC (regS_T hS ht) hR0
    have C1 := S1.cn (regS_28 hS) C0
    obtain ⟨G1, G2, G8, G9, G10, G11, G12, G13, K0, K1, K2, K3, K4, K5, K6, S28, G21⟩ := g1.ly hS
    obtain ⟨Z0, Z14, Z17, Z20, Z21, Z22, Z23, Z24, W0, W1, W2, W3, W4, W5, W6, W7, Y2⟩ := g1.st hS
    have RW := g1.rows
    have W8 : hA.2.2.1 s 8 = some t := by rw [S1.2.1]; exact putR_eq
    have qS := c_sayAll g1 hS ht hR1 hok W8 (ltR_ok hok r) hH bs.1 (fun q k hq hk => (hy.2 q k hq hk).2) hq bs.2.2.2.2.1 nA bs.2.2.2.1
    change RN 54 82 _ _ _ 0 0 _
    dsimp only [Option.toList, List.nil_append]
    refine r_aload_n hm rfl (k := ?_)
    refine r_callv (j2 := 79) hm rfl rfl rfl rfl rfl rfl (by first | assumption | exact Z0 | exact Z14 | exact Z20 | exact Z21 | exact Z22 | exact G1 | exact RW.1 | exact (RW.2 _ (by omega)).1) (Nat.le_of_ble_eq_true rfl) (Nat.le_of_ble_eq_true rfl) rfl ⟨Nat.le_of_ble_eq_true rfl, Nat.le_of_ble_eq_true rfl, Nat.le_of_ble_eq_true rfl, Nat.le_of_ble_eq_true rfl, Nat.le_of_ble_eq_true rfl⟩ rfl (qS) (fun v9 hB p9 => ?_)
    obtain ⟨SB, sB, e1⟩ := p9
    subst e1
    replace bs := bs.same SB (fun a k z => by omega)
    replace e10 : hB.2.1 s 10 = (r : Int) := (SB.2.2 _ _ (by omega)).trans e10
    replace eP : hB.2.1 (s + 20) r = pgs x H r := (SB.2.2 _ _ (by omega)).trans eP
    replace bR := bR.same SB (fun a k z => by omega)
    replace hq := hq.same SB (fun a k z => by omega)
    replace hy := hy.same SB (fun a k z => by omega)
    replace nA := nA.same SB (fun a k z => by omega)
    replace S1 : Sm (regS s) (putR h s 8 (some t)) hB := S1.trans (SB.mono (fun a k z => by unfold regS; omega))
    have g1 := S1.gg g0
    have hR1 := S1.repC (regS_T hS ht) hR0
    have C1 := S1.cn (regS_28 hS) C0
    obtain ⟨G1, G2, G8, G9, G10, G11, G12, G13, K0, K1, K2, K3, K4, K5, K6, S28, G21⟩ := g1.ly hS
    obtain ⟨Z0, Z14, Z17, Z20, Z21, Z22, Z23, Z24, W0, W1, W2, W3, W4, W5, W6, W7, Y2⟩ := g1.st hS
    have RW := g1.rows
    have W8 : hB.2.2.1 s 8 = some t := by rw [S1.2.1]; exact putR_eq
    have qK := c_roundSaidLike g1 hS hok (r := r) (by omega) bs.2.1 (fun d hd => if e : d = r then (by subst e; exact bR) else bs.2.2.2.2.2.1 d (by omega)) sB
    have lr := lkM_rng (x := x) (H := H) (r := r) (r + 1)
    have lr2 : -1 ≤ lik x H r ∧ lik x H r < ((r + 1 : Nat) : Int) := lr
    obtain ⟨bF, b12, bL, bM, bN, bW, bP⟩ := id bs
    change RN 54 86 _ _ _ 0 0 _
    dsimp only [Option.toList, List.nil_append]
    refine r_aload_n hm rfl (k := ?_)
    refine r_iload_n hm rfl (k := ?_)
    refine r_callv (j2 := 82) hm rfl rfl rfl rfl rfl rfl (by first | assumption | exact Z0 | exact Z14 | exact Z20 | exact Z21 | exact Z22 | exact G1 | exact RW.1 | exact (RW.2 _ (by omega)).1) (Nat.le_of_ble_eq_true rfl) (Nat.le_of_ble_eq_true rfl) rfl ⟨Nat.le_of_ble_eq_true rfl, Nat.le_of_ble_eq_true rfl, Nat.le_of_ble_eq_true rfl, Nat.le_of_ble_eq_true rfl, Nat.le_of_ble_eq_true rfl⟩ rfl (qK) (fun v9 h9 p9 => ?_)
    obtain ⟨e1, e2⟩ := p9
    subst e2
    replace e1 := e1.symm
    subst e1
    change RN 54 91 _ _ _ 0 0 _
    dsimp only [Option.toList, List.cons_append, List.nil_append]
    refine r_istore hm rfl (k := ?_)
    refine r_iload hm rfl (k := ?_)
    refine r_iconst hm rfl (k := ?_)
    refine r_icmp_eq (t := 135) hm rfl rfl (fun c96 => ?_) (fun c96 => ?_)
    · refine r_iload_n hm rfl (k := ?_)
      refine r_bipush hm rfl (k := ?_)
      refine r_icmp_ge (t := 158) hm rfl rfl (fun c138 => ?_) (fun c138 => ?_)
      · refine r_iinc hm rfl (hr := (by omega)) (k := ?_)
        refine r_goto (t := 22) hm rfl (k := ?_)
        refine r_iload_n hm rfl (k := ?_)
        refine r_bipush hm rfl (k := ?_)
        refine r_icmp_gt (t := 164) hm rfl rfl (fun c25 => ?_) (fun c25 => ?_)
        · refine r_aload_n hm rfl (k := ?_)
          refine r_iconst hm rfl (k := ?_)
          refine r_putI (hm := hm) (hf := rfl) (hd := rfl) (hs := (by first | assumption | exact Z0 | exact Z14 | exact Z20 | exact Z21 | exact Z22 | exact G1 | exact RW.1 | exact (RW.2 _ (by omega)).1)) (hfin := Or.inl rfl) (hz := fun q9 => absurd q9 (by decide)) (k := ?_)
          refine r_aload_n hm rfl (k := ?_)
          refine r_iconst hm rfl (k := ?_)
          refine r_putI (hm := hm) (hf := rfl) (hd := rfl) (hs := (by first | assumption | exact Z0 | exact Z14 | exact Z20 | exact Z21 | exact Z22 | exact G1 | exact RW.1 | exact (RW.2 _ (by omega)).1)) (hfin := Or.inl rfl) (hz := fun q9 => absurd q9 (by decide)) (k := ?_)
          refine r_return hm rfl rfl (Nat.le_of_ble_eq_true rfl) (Nat.le_of_ble_eq_true rfl) ?_
          have ef : fin x H = r := by rw [← hfin, show r = 11 by omega]; rfl
          have SY : Sm (fun a k => a = s ∧ k ≠ 10 ∧ k ≠ 12) hB (putI (putI hB s 9 2) s 11 0) := Sm.put (Sm.put Sm.refl (by omega)) (by omega)
          refine ⟨S1.trans (SY.mono (fun a k z => by unfold regS; omega)), ?_, rfl⟩
          unfold SetC
          rw [ef]
          refine ⟨(by rw [SY.2.1]; exact W8), ?_, ?_, ?_, fun j hj => ?_, hq.same SY (fun a k z => by omega), hy.same SY (fun a k z => by omega), fun q hq9 => (SY.2.2 _ _ (by omega)).trans (bF q hq9), bL.same SY (fun a k z => by omega), nA.same SY (fun a k z => by omega), bM.same SY (fun a k z => by omega), bN.same SY (fun a k z => by omega)⟩
          · rw [putI_ne (by omega), putI_eq]
            unfold ocm
            rw [if_neg (by omega), if_pos (by omega)]
          · exact (SY.2.2 _ _ (by omega)).trans e10
          · rw [putI_eq]
            unfold prd
            rw [if_pos (by omega)]
          · rw [SY.2.2 _ _ (by omega)]
            by_cases ej : j = r
            · rw [ej]; exact eP
            · exact bP j (by omega)
        · exfalso; omega
      · refine r_aload_n hm rfl (k := ?_)
        refine r_getR (hm := hm) (hf := rfl) (hd := rfl) (hs := (by first | assumption | exact Z0 | exact Z14 | exact Z20 | exact Z21 | exact Z22 | exact G1 | exact RW.1 | exact (RW.2 _ (by omega)).1)) (hv := (by first | exact putI_eq | exact (putI_ne (by omega)).trans (by first | exact putI_eq | exact (putI_ne (by omega)).trans (by first | first | assumption | exact W0 | exact W1 | exact W2 | exact W3 | exact W4 | exact W5 | exact W8 | exact b12 | exact bs.2.1 | exact (RW.2 _ (by omega)).2) | first | assumption | exact W0 | exact W1 | exact W2 | exact W3 | exact W4 | exact W5 | exact W8 | exact b12 | exact bs.2.1 | exact (RW.2 _ (by omega)).2) | first | assumption | exact W0 | exact W1 | exact W2 | exact W3 | exact W4 | exact W5 | exact W8 | exact b12 | exact bs.2.1 | exact (RW.2 _ (by omega)).2)) (k := ?_)
        refine r_iconst hm rfl (k := ?_)
        refine r_aload_n hm rfl (k := ?_)
        refine r_getR (hm := hm) (hf := rfl) (hd := rfl) (hs := (by first | assumption | exact Z0 | exact Z14 | exact Z20 | exact Z21 | exact Z22 | exact G1 | exact RW.1 | exact (RW.2 _ (by omega)).1)) (hv := (by first | exact putI_eq | exact (putI_ne (by omega)).trans (by first | exact putI_eq | exact (putI_ne (by omega)).trans (by first | first | assumption | exact W0 | exact W1 | exact W2 | exact W3 | exact W4 | exact W5 | exact W8 | exact b12 | exact bs.2.1 | exact (RW.2 _ (by omega)).2) | first | assumption | exact W0 | exact W1 | exact W2 | exact W3 | exact W4 | exact W5 | exact W8 | exact b12 | exact bs.2.1 | exact (RW.2 _ (by omega)).2) | first | assumption | exact W0 | exact W1 | exact W2 | exact W3 | exact W4 | exact W5 | exact W8 | exact b12 | exact bs.2.1 | exact (RW.2 _ (by omega)).2)) (k := ?_)
        refine r_iconst hm rfl (k := ?_)
        refine r_aload_n hm rfl (k := ?_)
        refine r_getI (hm := hm) (hf := rfl) (hd := rfl) (hs := (by first | assumption | exact Z0 | exact Z14 | exact Z20 | exact Z21 | exact Z22 | exact G1 | exact RW.1 | exact (RW.2 _ (by omega)).1)) (hv := (by first | exact putI_eq | exact (putI_ne (by omega)).trans (by first | exact putI_eq | exact (putI_ne (by omega)).trans (by first | first | assumption | exact W0 | exact W1 | exact W2 | exact W3 | exact W4 | exact W5 | exact W8 | exact b12 | exact bs.2.1 | exact (RW.2 _ (by omega)).2) | first | assumption | exact W0 | exact W1 | exact W2 | exact W3 | exact W4 | exact W5 | exact W8 | exact b12 | exact bs.2.1 | exact (RW.2 _ (by omega)).2) | first | assumption | exact W0 | exact W1 | exact W2 | exact W3 | exact W4 | exact W5 | exact W8 | exact b12 | exact bs.2.1 | exact (RW.2 _ (by omega)).2)) (k := ?_)
        refine r_copy hm rfl rfl rfl rfl (by decide) (Nat.le_of_ble_eq_true rfl) (by omega) (by omega) (by omega) (by omega) (by omega) (by first | assumption | exact Z0 | exact Z14 | exact Z20 | exact Z21 | exact Z22 | exact G1 | exact RW.1 | exact (RW.2 _ (by omega)).1) (by first | assumption | exact Z0 | exact Z14 | exact Z20 | exact Z21 | exact Z22 | exact G1 | exact RW.1 | exact (RW.2 _ (by omega)).1) (by omega) (by omega) ?_
        refine r_iinc hm rfl (hr := (by omega)) (k := ?_)
        refine r_goto (t := 22) hm rfl (k := ?_)
        refine ih (d - 1) (by omega) (r + 1) _ _ (by omega) (S1.trans ((cpy_sm (b := s + 21)).mono (fun a k z => by unfold regS; omega))) ?_ (by rw [← hfin, rnd_s (r := r) (by omega) (by omega)])
        refine ⟨fun q hq9 => ((cpy_sm (b := s + 21)).2.2 _ _ (by omega)).trans (bF q hq9), ((cpy_sm (b := s + 21)).2.2 _ _ (by omega)).trans b12, cpy_pc rfl sB, bM.same (cpy_sm (b := s + 21)) (fun a k z => by omega), bN.same (cpy_sm (b := s + 21)) (fun a k z => by omega), fun j hj => ?_, fun j hj => ?_⟩
        · by_cases ej : j = r
          · rw [ej]; exact bR.same (cpy_sm (b := s + 21)) (fun a k z => by omega)
          · exact (bW j (by omega)).same (cpy_sm (b := s + 21)) (fun a k z => by omega)
        · rw [(cpy_sm (b := s + 21)).2.2 _ _ (by omega)]
          by_cases ej : j = r
          · rw [ej]; exact eP
          · exact bP j (by omega)
    · refine r_aload_n hm rfl (k := ?_)
      refine r_iload hm rfl (k := ?_)
      refine r_iload_n hm rfl (k := ?_)
      refine r_icmp_ne (t := 110) hm rfl rfl (fun c103 => ?_) (fun c103 => ?_)
      · refine r_iconst hm rfl (k := ?_)
        refine r_putI (hm := hm) (hf := rfl) (hd := rfl) (hs := (by first | assumption | exact Z0 | exact Z14 | exact Z20 | exact Z21 | exact Z22 | exact G1 | exact RW.1 | exact (RW.2 _ (by omega)).1)) (hfin := Or.inl rfl) (hz := fun q9 => absurd q9 (by decide)) (k := ?_)
        refine r_aload_n hm rfl (k := ?_)
        refine r_iload hm rfl (k := ?_)
        refine r_iload_n hm rfl (k := ?_)
        refine r_icmp_ne (t := 125) hm rfl rfl (fun c118 => ?_) (fun c118 => ?_)
        · refine r_iload_n hm rfl (k := ?_)
          refine r_iconst hm rfl (k := ?_)
          refine r_iadd hm rfl (hr := (by omega)) (k := ?_)
          refine r_iload hm rfl (k := ?_)
          refine r_isub hm rfl (hr := (by omega)) (k := ?_)
          refine r_putI (hm := hm) (hf := rfl) (hd := rfl) (hs := (by first | assumption | exact Z0 | exact Z14 | exact Z20 | exact Z21 | exact Z22 | exact G1 | exact RW.1 | exact (RW.2 _ (by omega)).1)) (hfin := Or.inl rfl) (hz := fun q9 => absurd q9 (by decide)) (k := ?_)
          refine r_return hm rfl rfl (Nat.le_of_ble_eq_true rfl) (Nat.le_of_ble_eq_true rfl) ?_
          have ef : fin x H = r := hfin.symm.trans (rnd_n (by omega))
          have SY : Sm (fun a k => a = s ∧ k ≠ 10 ∧ k ≠ 12) hB (putI (putI hB s 9 1) s 11 ((r : Int) + 1 - lik x H r)) := Sm.put (Sm.put Sm.refl (by omega)) (by omega)
          refine ⟨S1.trans (SY.mono (fun a k z => by unfold regS; omega)), ?_, rfl⟩
          unfold SetC
          rw [ef]
          refine ⟨(by rw [SY.2.1]; exact W8), ?_, ?_, ?_, fun j hj => ?_, hq.same SY (fun a k z => by omega), hy.same SY (fun a k z => by omega), fun q hq9 => (SY.2.2 _ _ (by omega)).trans (bF q hq9), bL.same SY (fun a k z => by omega), nA.same SY (fun a k z => by omega), bM.same SY (fun a k z => by omega), bN.same SY (fun a k z => by omega)⟩
          · rw [putI_ne (by omega), putI_eq]
            unfold ocm
            rw [if_neg (by omega), if_neg (by omega)]
          · exact (SY.2.2 _ _ (by omega)).trans e10
          · rw [putI_eq]
            unfold prd
            rw [if_neg (by omega)]
          · rw [SY.2.2 _ _ (by omega)]
            by_cases ej : j = r
            · rw [ej]; exact eP
            · exact bP j (by omega)
        · exfalso; omega
      · refine r_iconst hm rfl (k := ?_)
        refine r_goto (t := 111) hm rfl (k := ?_)
        refine r_putI (hm := hm) (hf := rfl) (hd := rfl) (hs := (by first | assumption | exact Z0 | exact Z14 | exact Z20 | exact Z21 | exact Z22 | exact G1 | exact RW.1 | exact (RW.2 _ (by omega)).1)) (hfin := Or.inl rfl) (hz := fun q9 => absurd q9 (by decide)) (k := ?_)
        refine r_aload_n hm rfl (k := ?_)
        refine r_iload hm rfl (k := ?_)
        refine r_iload_n hm rfl (k := ?_)
        refine r_icmp_ne (t := 125) hm rfl rfl (fun c118 => ?_) (fun c118 => ?_)
        · exfalso; omega
        · refine r_iconst hm rfl (k := ?_)
          refine r_goto (t := 131) hm rfl (k := ?_)
          refine r_putI (hm := hm) (hf := rfl) (hd := rfl) (hs := (by first | assumption | exact Z0 | exact Z14 | exact Z20 | exact Z21 | exact Z22 | exact G1 | exact RW.1 | exact (RW.2 _ (by omega)).1)) (hfin := Or.inl rfl) (hz := fun q9 => absurd q9 (by decide)) (k := ?_)
          refine r_return hm rfl rfl (Nat.le_of_ble_eq_true rfl) (Nat.le_of_ble_eq_true rfl) ?_
          have ef : fin x H = r := hfin.symm.trans (rnd_n (by omega))
          have SY : Sm (fun a k => a = s ∧ k ≠ 10 ∧ k ≠ 12) hB (putI (putI hB s 9 0) s 11 0) := Sm.put (Sm.put Sm.refl (by omega)) (by omega)
          refine ⟨S1.trans (SY.mono (fun a k z => by unfold regS; omega)), ?_, rfl⟩
          unfold SetC
          rw [ef]
          refine ⟨(by rw [SY.2.1]; exact W8), ?_, ?_, ?_, fun j hj => ?_, hq.same SY (fun a k z => by omega), hy.same SY (fun a k z => by omega), fun q hq9 => (SY.2.2 _ _ (by omega)).trans (bF q hq9), bL.same SY (fun a k z => by omega), nA.same SY (fun a k z => by omega), bM.same SY (fun a k z => by omega), bN.same SY (fun a k z => by omega)⟩
          · rw [putI_ne (by omega), putI_eq]
            unfold ocm
            rw [if_pos (by omega)]
          · exact (SY.2.2 _ _ (by omega)).trans e10
          · rw [putI_eq]
            unfold prd
            rw [if_pos (by omega)]
          · rw [SY.2.2 _ _ (by omega)]
            by_cases ej : j = r
            · rw [ej]; exact eP
            · exact bP j (by omega)
