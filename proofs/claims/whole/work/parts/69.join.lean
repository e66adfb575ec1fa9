/-! sections joined: the class -/
/-- only longs changed -/
def SL (h h2 : Hp) : Prop := h2.1 = h.1 ∧ h2.2.1 = h.2.1 ∧ h2.2.2.1 = h.2.2.1
theorem SL.refl {h : Hp} : SL h h := ⟨rfl, rfl, rfl⟩
theorem SL.trans {h h2 h3 : Hp} (p : SL h h2) (q : SL h2 h3) : SL h h3 := ⟨q.1.trans p.1, q.2.1.trans p.2.1, q.2.2.trans p.2.2⟩
theorem SL.put {h h2 : Hp} {a k : Nat} {v : Int64} (p : SL h h2) : SL h (putL h2 a k v) := p
theorem SL.gg {L : Nat} {h h2 : Hp} (p : SL h h2) (g : GG L h) : GG L h2 := ⟨fun a => by rw [p.1]; exact g.1 a, fun a k b q => by rw [p.2.2]; exact g.2 a k b q⟩
theorem SL.repC {h h2 : Hp} {t : Nat} {x : Tx} (p : SL h h2) (R : RepC h t x) : RepC h2 t x := R.fr (fun i => by rw [p.2.2]) (fun a k _ _ => by rw [p.2.1])
theorem SL.itm {h h2 : Hp} (p : SL h h2) (t i : Nat) : itm h2 t i = itm h t i := by show (h2.2.2.1 (t + 1) i).getD 0 = _; rw [p.2.2]; rfl
theorem putL_ne {h : Hp} {a k b q : Nat} {v : Int64} (e : b ≠ a ∨ q ≠ k) : (putL h a k v).2.2.2 b q = h.2.2.2 b q := if_neg (fun z => by omega)
theorem putL_eq {h : Hp} {a k : Nat} {v : Int64} : (putL h a k v).2.2.2 a k = v := if_pos ⟨rfl, rfl⟩
theorem j_fillL {h : Hp} {b : Nat} {w : Int64} (hs : h.1[b]? = some (102, 61)) (h28 : 28 ≤ b) : RN 110 0 [some (.inr (.inr (some b))), some (.inr (.inl w)), none, none, none] [] h 0 0 (fun v h2 => SL h h2 ∧ (∀ k, k < 61 → h2.2.2.2 b k = w) ∧ (∀ a k, a ≠ b → h2.2.2.2 a k = h.2.2.2 a k) ∧ v = none) := by
  have hm : mrec 110 = some nM110 := rfl
  refine r_iconst hm rfl (k := ?_)
  refine r_istore_n hm rfl (k := ?_)
  refine r_aload_n hm rfl (k := ?_)
  refine r_alen hm rfl (hs := hs) (hn := by omega) (k := ?_)
  refine r_istore hm rfl (k := ?_)
  suffices LP : ∀ (d i : Nat) (h1 : Hp), i + d = 61 → SL h h1 → (∀ k, k < i → h1.2.2.2 b k = w) → (∀ a k, a ≠ b → h1.2.2.2 a k = h.2.2.2 a k) → RN 110 6 [some (.inr (.inr (some b))), some (.inr (.inl w)), none, some (.inl (i : Int)), some (.inl 61)] [] h1 0 0 (fun v h2 => SL h h2 ∧ (∀ k, k < 61 → h2.2.2.2 b k = w) ∧ (∀ a k, a ≠ b → h2.2.2.2 a k = h.2.2.2 a k) ∧ v = none) from LP 61 0 h (by omega) SL.refl (fun k hk => absurd hk (Nat.not_lt_zero _)) (fun _ _ _ => rfl)
  refine fun d => Nat.strongRecOn d (fun d ih => ?_)
  intro i h1 hd S1 eA eB
  have hs1 : h1.1[b]? = some (102, 61) := by rw [S1.1]; exact hs
  refine r_iload_n hm rfl (k := ?_)
  refine r_iload hm rfl (k := ?_)
  refine r_icmp_ge (t := 22) hm rfl rfl (fun c9 => ?_) (fun c9 => ?_)
  · refine r_return hm rfl rfl (Nat.le_of_ble_eq_true rfl) (Nat.le_of_ble_eq_true rfl) ?_
    have ei : i = 61 := by omega
    subst ei
    exact ⟨S1, eA, eB, rfl⟩
  · refine r_aload_n hm rfl (k := ?_)
    refine r_iload_n hm rfl (k := ?_)
    refine r_lload_n hm rfl (k := ?_)
    refine r_last (hm := hm) (hf := rfl) (h28 := (by omega)) (hs := (by first | exact hs1 | exact hs)) (hi := rfl) (hn := (by omega)) (k := ?_)
    refine r_iinc hm rfl (hr := (by omega)) (k := ?_)
    refine r_goto (t := 6) hm rfl (k := ?_)
    exact ih (d - 1) (by omega) (i + 1) _ (by omega) S1.put (fun k hk => if e : k = i then (by subst e; exact putL_eq) else (by rw [putL_ne (by omega)]; exact eA k (by omega))) (fun a k e => by rw [putL_ne (by omega)]; exact eB a k e)
theorem c_joinTwo {L : Nat} {h : Hp} {u v9 : Nat} (g : GG L h) (hu : u < 61) (hv : v9 < 61) : RN 111 0 [some (.inr (.inr (some 344))), some (.inl (u : Int)), some (.inl (v9 : Int))] [] h 0 0 (fun v h2 => SL h h2 ∧ h2.2.2.2 345 u = (h.2.2.2 345 u ||| one9 v9) ∧ h2.2.2.2 346 v9 = (h.2.2.2 346 v9 ||| one9 u) ∧ (∀ k, k ≠ u → h2.2.2.2 345 k = h.2.2.2 345 k) ∧ (∀ k, k ≠ v9 → h2.2.2.2 346 k = h.2.2.2 346 k) ∧ v = none) := by
  have hm : mrec 111 = some nM111 := rfl
  refine r_aload_n hm rfl (k := ?_)
  refine r_getR (hm := hm) (hf := rfl) (hd := rfl) (hs := (by first | exact (g.1 _).trans rfl)) (hv := (by first | exact g.2 _ _ _ rfl | exact putL_ne (by omega) | exact rfl)) (k := ?_)
  refine r_iload_n hm rfl (k := ?_)
  refine r_dup2 hm rfl (k := ?_)
  refine r_lald (hm := hm) (hf := rfl) (hs := (by first | exact (g.1 _).trans rfl)) (hi := rfl) (hn := (by omega)) (hv := (by first | exact g.2 _ _ _ rfl | exact putL_ne (by omega) | exact rfl)) (k := ?_)
  refine r_lconst hm rfl (k := ?_)
  refine r_iload_n hm rfl (k := ?_)
  refine r_lshl hm rfl (k := ?_)
  refine r_lor hm rfl (k := ?_)
  refine r_last (hm := hm) (hf := rfl) (h28 := (by omega)) (hs := (by first | exact (g.1 _).trans rfl)) (hi := rfl) (hn := (by omega)) (k := ?_)
  refine r_aload_n hm rfl (k := ?_)
  refine r_getR (hm := hm) (hf := rfl) (hd := rfl) (hs := (by first | exact (g.1 _).trans rfl)) (hv := (by first | exact g.2 _ _ _ rfl | exact putL_ne (by omega) | exact rfl)) (k := ?_)
  refine r_iload_n hm rfl (k := ?_)
  refine r_dup2 hm rfl (k := ?_)
  refine r_lald (hm := hm) (hf := rfl) (hs := (by first | exact (g.1 _).trans rfl)) (hi := rfl) (hn := (by omega)) (hv := (by first | exact g.2 _ _ _ rfl | exact putL_ne (by omega) | exact rfl)) (k := ?_)
  refine r_lconst hm rfl (k := ?_)
  refine r_iload_n hm rfl (k := ?_)
  refine r_lshl hm rfl (k := ?_)
  refine r_lor hm rfl (k := ?_)
  refine r_last (hm := hm) (hf := rfl) (h28 := (by omega)) (hs := (by first | exact (g.1 _).trans rfl)) (hi := rfl) (hn := (by omega)) (k := ?_)
  refine r_return hm rfl rfl (Nat.le_of_ble_eq_true rfl) (Nat.le_of_ble_eq_true rfl) ?_
  refine ⟨SL.refl.put.put, (putL_ne (by omega)).trans putL_eq, putL_eq, fun k hk => (putL_ne (by omega)).trans (putL_ne (by omega)), fun k hk => (putL_ne (by omega)).trans (putL_ne (by omega)), rfl⟩
set_option maxRecDepth 8000 in
theorem c_join {L : Nat} {h : Hp} {x : Tx} (g : GG L h) (hR : RepC h 29 x) (hok : okTx x) (nN : NmR h 275 x x.1) : RN 109 0 [some (.inr (.inr (some 344))), some (.inr (.inr (some 29))), some (.inr (.inr (some 275))), none, none, none, none] [] h 0 0 (fun w9 h2 => SL h h2 ∧ (∀ u v, u < 61 → v < 64 → tb (h2.2.2.2 345 u) v = edg x u v) ∧ (∀ u v, v < 61 → u < 64 → tb (h2.2.2.2 346 v) u = edg x u v) ∧ w9 = none) := by
  have hm : mrec 109 = some nM109 := rfl
  have n60 := hok.1
  have ht : isT 29 := Or.inl rfl
  have g1 := g
  refine r_aload_n hm rfl (k := ?_)
  refine r_getR (hm := hm) (hf := rfl) (hd := rfl) (hs := (by first | assumption | exact (g1.1 _).trans rfl | exact I1 _ (by omega))) (hv := (by first | assumption | exact g1.2 _ _ _ rfl | exact I0 _ (by omega) | exact F4 _ (by omega) | exact eS _ (by omega))) (k := ?_)
  refine r_lconst hm rfl (k := ?_)
  refine r_calls (j2 := 110) hm rfl rfl rfl rfl rfl rfl (Nat.le_of_ble_eq_true rfl) (Nat.le_of_ble_eq_true rfl) rfl ⟨Nat.le_of_ble_eq_true rfl, Nat.le_of_ble_eq_true rfl, Nat.le_of_ble_eq_true rfl, Nat.le_of_ble_eq_true rfl, Nat.le_of_ble_eq_true rfl⟩ rfl (j_fillL (w := 0) ((g.1 _).trans rfl) (by omega)) (fun v9 hA p9 => ?_)
  obtain ⟨SA, eA, oA, e1⟩ := p9
  subst e1
  replace g1 := SA.gg g
  change RN 109 8 _ _ _ 0 0 _
  dsimp only [Option.toList, List.nil_append]
  refine r_aload_n hm rfl (k := ?_)
  refine r_getR (hm := hm) (hf := rfl) (hd := rfl) (hs := (by first | assumption | exact (g1.1 _).trans rfl | exact I1 _ (by omega))) (hv := (by first | assumption | exact g1.2 _ _ _ rfl | exact I0 _ (by omega) | exact F4 _ (by omega) | exact eS _ (by omega))) (k := ?_)
  refine r_lconst hm rfl (k := ?_)
  refine r_calls (j2 := 110) hm rfl rfl rfl rfl rfl rfl (Nat.le_of_ble_eq_true rfl) (Nat.le_of_ble_eq_true rfl) rfl ⟨Nat.le_of_ble_eq_true rfl, Nat.le_of_ble_eq_true rfl, Nat.le_of_ble_eq_true rfl, Nat.le_of_ble_eq_true rfl, Nat.le_of_ble_eq_true rfl⟩ rfl (j_fillL (w := 0) ((g1.1 _).trans rfl) (by omega)) (fun v9 hB p9 => ?_)
  obtain ⟨SB, eB, oB, e1⟩ := p9
  subst e1
  change RN 109 16 _ _ _ 0 0 _
  dsimp only [Option.toList, List.nil_append]
  refine r_iconst hm rfl (k := ?_)
  refine r_istore_n hm rfl (k := ?_)
  suffices LP : ∀ (d i : Nat) (h1 : Hp) (z4 z5 z6 : Option Vl), i + d = x.1 → SL h h1 → (∀ u v, u < 61 → v < 64 → tb (h1.2.2.2 345 u) v = (an (fun i => an (fun k => edk x i k u v) 0 (pcs x i)) 0 i || an (fun k => edk x i k u v) 0 0)) → (∀ u v, v < 61 → u < 64 → tb (h1.2.2.2 346 v) u = (an (fun i => an (fun k => edk x i k u v) 0 (pcs x i)) 0 i || an (fun k => edk x i k u v) 0 0)) → RN 109 18 [some (.inr (.inr (some 344))), some (.inr (.inr (some 29))), some (.inr (.inr (some 275))), some (.inl (i : Int)), z4, z5, z6] [] h1 0 0 (fun w9 h2 => SL h h2 ∧ (∀ u v, u < 61 → v < 64 → tb (h2.2.2.2 345 u) v = edg x u v) ∧ (∀ u v, v < 61 → u < 64 → tb (h2.2.2.2 346 v) u = edg x u v) ∧ w9 = none) from LP x.1 0 _ _ _ _ (by omega) (SA.trans SB) (fun u v hu hv => by rw [oB 345 u (by omega), eA u hu, tb_zero]; rfl) (fun u v hu hv => by rw [eB v hu, tb_zero]; rfl)
  clear SA SB eA eB oA oB g1
  refine fun d => Nat.strongRecOn d (fun d ih => ?_)
  intro i h1 z4 z5 z6 hd S1 eX eY
  have g1 := S1.gg g
  have hR1 := S1.repC hR
  obtain ⟨T1, T2, T3, T4, T5, T6, T7⟩ := g1.tx ht
  obtain ⟨I0, I1, I2, I3, I4, J0, J1, J2, F0, F1, F2, F3, F4, P0, P1, P2⟩ := hR1.use g1 ht
  obtain ⟨R1, R2, R3, R4, R5, R6, R7⟩ := id hR1
  have eit := S1.itm 29
  simp only [S1.itm] at I0 I1 I2 I3 I4 J0 J1 J2 F0 F1 F2 F3 F4 P0 P1 P2
  have eS := fun q (hq : q < x.1) => (congrFun (congrFun S1.2.1 276) q).trans (nN q hq).1
  refine r_iload_n hm rfl (k := ?_)
  refine r_aload_n hm rfl (k := ?_)
  refine r_getI (hm := hm) (hf := rfl) (hd := rfl) (hs := (by first | assumption | exact (g1.1 _).trans rfl | exact I1 _ (by omega))) (hv := (by first | assumption | exact g1.2 _ _ _ rfl | exact I0 _ (by omega) | exact F4 _ (by omega) | exact eS _ (by omega))) (k := ?_)
  refine r_icmp_ge (t := 96) hm rfl rfl (fun c23 => ?_) (fun c23 => ?_)
  · refine r_return hm rfl rfl (Nat.le_of_ble_eq_true rfl) (Nat.le_of_ble_eq_true rfl) ?_
    have ei : i = x.1 := by omega
    subst ei
    exact ⟨S1, fun u v hu hv => by rw [eX u v hu hv]; simp [an, edg], fun u v hu hv => by rw [eY u v hu hv]; simp [an, edg], rfl⟩
  · have hi2 : i < x.1 := by omega
    obtain ⟨ep, ep2⟩ := pcs_eq hok hi2
    refine r_aload_n hm rfl (k := ?_)
    refine r_getR (hm := hm) (hf := rfl) (hd := rfl) (hs := (by first | assumption | exact (g1.1 _).trans rfl | exact I1 _ (by omega))) (hv := (by first | assumption | exact g1.2 _ _ _ rfl | exact I0 _ (by omega) | exact F4 _ (by omega) | exact eS _ (by omega))) (k := ?_)
    refine r_iload_n hm rfl (k := ?_)
    refine r_aald (hm := hm) (hf := rfl) (hs := (by first | assumption | exact (g1.1 _).trans rfl | exact I1 _ (by omega))) (hkd := by decide) (hi := rfl) (hn := (by omega)) (hv := (by first | assumption | exact g1.2 _ _ _ rfl | exact I0 _ (by omega) | exact F4 _ (by omega) | exact eS _ (by omega))) (k := ?_)
    refine r_astore hm rfl (k := ?_)
    refine r_iconst hm rfl (k := ?_)
    refine r_istore hm rfl (k := ?_)
    suffices LP : ∀ (d2 k : Nat) (h1 : Hp) (z6 : Option Vl), k + d2 = pcs x i → SL h h1 → (∀ u v, u < 61 → v < 64 → tb (h1.2.2.2 345 u) v = (an (fun i => an (fun k => edk x i k u v) 0 (pcs x i)) 0 i || an (fun k => edk x i k u v) 0 k)) → (∀ u v, v < 61 → u < 64 → tb (h1.2.2.2 346 v) u = (an (fun i => an (fun k => edk x i k u v) 0 (pcs x i)) 0 i || an (fun k => edk x i k u v) 0 k)) → RN 109 37 [some (.inr (.inr (some 344))), some (.inr (.inr (some 29))), some (.inr (.inr (some 275))), some (.inl (i : Int)), some (.inr (.inr (some (itm h 29 i)))), some (.inl (k : Int)), z6] [] h1 0 0 (fun w9 h2 => SL h h2 ∧ (∀ u v, u < 61 → v < 64 → tb (h2.2.2.2 345 u) v = edg x u v) ∧ (∀ u v, v < 61 → u < 64 → tb (h2.2.2.2 346 v) u = edg x u v) ∧ w9 = none) from LP (pcs x i) 0 _ _ (by omega) S1 eX eY
    clear g1 hR1 T1 T2 T3 T4 T5 T6 T7 I0 I1 I2 I3 I4 J0 J1 J2 F0 F1 F2 F3 F4 P0 P1 P2 R1 R2 R3 R4 R5 R6 R7 eit eS S1 eX eY
    refine fun d2 => Nat.strongRecOn d2 (fun d2 ih2 => ?_)
    intro k h1 z6 hd2 S1 eX eY
    have g1 := S1.gg g
    have hR1 := S1.repC hR
    obtain ⟨T1, T2, T3, T4, T5, T6, T7⟩ := g1.tx ht
    obtain ⟨I0, I1, I2, I3, I4, J0, J1, J2, F0, F1, F2, F3, F4, P0, P1, P2⟩ := hR1.use g1 ht
    obtain ⟨R1, R2, R3, R4, R5, R6, R7⟩ := id hR1
    have eit := S1.itm 29
    simp only [S1.itm] at I0 I1 I2 I3 I4 J0 J1 J2 F0 F1 F2 F3 F4 P0 P1 P2
    have eS := fun q (hq : q < x.1) => (congrFun (congrFun S1.2.1 276) q).trans (nN q hq).1
    refine r_iload hm rfl (k := ?_)
    refine r_aload hm rfl (k := ?_)
    refine r_getI (hm := hm) (hf := rfl) (hd := rfl) (hs := (by first | assumption | exact (g1.1 _).trans rfl | exact I1 _ (by omega))) (hv := (by first | assumption | exact g1.2 _ _ _ rfl | exact I0 _ (by omega) | exact F4 _ (by omega) | exact eS _ (by omega))) (k := ?_)
    refine r_icmp_ge (t := 90) hm rfl rfl (fun c44 => ?_) (fun c44 => ?_)
    · refine r_iinc hm rfl (hr := (by omega)) (k := ?_)
      refine r_goto (t := 18) hm rfl (k := ?_)
      have ek : k = pcs x i := by omega
      subst ek
      exact ih (d - 1) (by omega) (i + 1) _ _ _ _ (by omega) S1 (fun u v hu hv => by rw [eX u v hu hv, an_last, Nat.zero_add]; simp [an]) (fun u v hu hv => by rw [eY u v hu hv, an_last, Nat.zero_add]; simp [an])
    · have hmr := @mnt_rng x i k
      have qM := c_meantBy g1 ht hR1 (i := i) (k := k) hi2 (by omega) (by omega)
      rw [eit] at qM
      refine r_aload_n hm rfl (k := ?_)
      refine r_aload hm rfl (k := ?_)
      refine r_iload hm rfl (k := ?_)
      refine r_callv (j2 := 50) hm rfl rfl rfl rfl rfl rfl (by first | assumption | exact (g1.1 _).trans rfl | exact I1 _ (by omega)) (Nat.le_of_ble_eq_true rfl) (Nat.le_of_ble_eq_true rfl) rfl ⟨Nat.le_of_ble_eq_true rfl, Nat.le_of_ble_eq_true rfl, Nat.le_of_ble_eq_true rfl, Nat.le_of_ble_eq_true rfl, Nat.le_of_ble_eq_true rfl⟩ rfl (qM) (fun v9 h9 p9 => ?_)
      obtain ⟨e1, e2⟩ := p9
      subst e2
      replace e1 := e1.symm
      subst e1
      change RN 109 55 _ _ _ 0 0 _
      dsimp only [Option.toList, List.cons_append, List.nil_append]
      refine r_istore hm rfl (k := ?_)
      refine r_iload hm rfl (k := ?_)
      refine r_iconst hm rfl (k := ?_)
      refine r_icmp_eq (t := 84) hm rfl rfl (fun c60 => ?_) (fun c60 => ?_)
      · refine r_iinc hm rfl (hr := (by omega)) (k := ?_)
        refine r_goto (t := 37) hm rfl (k := ?_)
        have ez : ∀ u v, edk x i k u v = false := fun u v => decide_eq_false (by omega)
        exact ih2 (d2 - 1) (by omega) (k + 1) _ _ (by omega) S1 (fun u v hu hv => by rw [an_last, Nat.zero_add, ez, Bool.or_false]; exact eX u v hu hv) (fun u v hu hv => by rw [an_last, Nat.zero_add, ez, Bool.or_false]; exact eY u v hu hv)
      · have sr := nSec_lt hok hi2
        have sm9 := nSec_lt hok (i := (mnt x i k).toNat) (by omega)
        obtain ⟨u0, hu0⟩ := Int.eq_ofNat_of_zero_le (show 0 ≤ nSec x i + 1 by omega)
        obtain ⟨v0, hv0⟩ := Int.eq_ofNat_of_zero_le (show 0 ≤ nSec x (mnt x i k).toNat + 1 by omega)
        have qJ := c_joinTwo g1 (u := u0) (v9 := v0) (by omega) (by omega)
        rw [← hu0, ← hv0] at qJ
        refine r_aload_n hm rfl (k := ?_)
        refine r_aload_n hm rfl (k := ?_)
        refine r_getR (hm := hm) (hf := rfl) (hd := rfl) (hs := (by first | assumption | exact (g1.1 _).trans rfl | exact I1 _ (by omega))) (hv := (by first | assumption | exact g1.2 _ _ _ rfl | exact I0 _ (by omega) | exact F4 _ (by omega) | exact eS _ (by omega))) (k := ?_)
        refine r_iload_n hm rfl (k := ?_)
        refine r_iald (hm := hm) (hf := rfl) (hs := (by first | assumption | exact (g1.1 _).trans rfl | exact I1 _ (by omega))) (hi := rfl) (hn := (by omega)) (hv := (by first | assumption | exact g1.2 _ _ _ rfl | exact I0 _ (by omega) | exact F4 _ (by omega) | exact eS _ (by omega))) (k := ?_)
        refine r_iconst hm rfl (k := ?_)
        refine r_iadd hm rfl (hr := (by omega)) (k := ?_)
        refine r_aload_n hm rfl (k := ?_)
        refine r_getR (hm := hm) (hf := rfl) (hd := rfl) (hs := (by first | assumption | exact (g1.1 _).trans rfl | exact I1 _ (by omega))) (hv := (by first | assumption | exact g1.2 _ _ _ rfl | exact I0 _ (by omega) | exact F4 _ (by omega) | exact eS _ (by omega))) (k := ?_)
        refine r_iload hm rfl (k := ?_)
        refine r_iald (hm := hm) (hf := rfl) (hs := (by first | assumption | exact (g1.1 _).trans rfl | exact I1 _ (by omega))) (kk := (mnt x i k).toNat) (hi := by omega) (hn := (by omega)) (hv := (by first | assumption | exact g1.2 _ _ _ rfl | exact I0 _ (by omega) | exact F4 _ (by omega) | exact eS _ (by omega))) (k := ?_)
        refine r_iconst hm rfl (k := ?_)
        refine r_iadd hm rfl (hr := (by omega)) (k := ?_)
        refine r_callv (j2 := 111) hm rfl rfl rfl rfl rfl rfl (by first | assumption | exact (g1.1 _).trans rfl | exact I1 _ (by omega)) (Nat.le_of_ble_eq_true rfl) (Nat.le_of_ble_eq_true rfl) rfl ⟨Nat.le_of_ble_eq_true rfl, Nat.le_of_ble_eq_true rfl, Nat.le_of_ble_eq_true rfl, Nat.le_of_ble_eq_true rfl, Nat.le_of_ble_eq_true rfl⟩ rfl (qJ) (fun v9 hJ p9 => ?_)
        obtain ⟨SJ, j1, j2, j3, j4, e1⟩ := p9
        subst e1
        change RN 109 84 _ _ _ 0 0 _
        dsimp only [Option.toList, List.nil_append]
        refine r_iinc hm rfl (hr := (by omega)) (k := ?_)
        refine r_goto (t := 37) hm rfl (k := ?_)
        have ez : ∀ u v : Nat, edk x i k u v = (decide (u = u0) && decide (v = v0)) := fun u v => by
          unfold edk
          rw [hu0, hv0]
          by_cases a1 : u = u0
          · by_cases a2 : v = v0
            · rw [decide_eq_true a1, decide_eq_true a2]
              exact decide_eq_true ⟨by omega, by omega, by omega⟩
            · rw [decide_eq_false a2, Bool.and_false]
              exact decide_eq_false (by omega)
          · rw [decide_eq_false a1, Bool.false_and]
            exact decide_eq_false (by omega)
        refine ih2 (d2 - 1) (by omega) (k + 1) hJ _ (by omega) (S1.trans SJ) (fun u v hu hv => ?_) (fun u v hu hv => ?_)
        · rw [an_last, Nat.zero_add, ez, ← Bool.or_assoc, ← eX u v hu hv]
          by_cases a1 : u = u0
          · rw [a1, j1, tb_or, tb_one (by omega) hv]; simp
          · rw [j3 u a1, decide_eq_false a1, Bool.false_and, Bool.or_false]
        · rw [an_last, Nat.zero_add, ez, ← Bool.or_assoc, ← eY u v hu hv]
          by_cases a1 : v = v0
          · rw [a1, j2, tb_or, tb_one (by omega) hv]; simp
          · rw [j4 v a1, decide_eq_false a1, Bool.and_false, Bool.or_false]
