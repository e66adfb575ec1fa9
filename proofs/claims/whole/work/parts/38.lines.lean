/-! pieces broken into lines -/
def isS (s : Nat) : Prop := s = 294 ∨ s = 319
theorem GG.ly {L : Nat} {h : Hp} {s : Nat} (g : GG L h) (hS : isS s) : h.1[s + 1]? = some (6, 7) ∧ h.1[s + 2]? = some (7, 9) ∧ h.1[s + 8]? = some (100, 60) ∧ h.1[s + 9]? = some (100, 60) ∧ h.1[s + 10]? = some (100, 1200) ∧ h.1[s + 11]? = some (100, 1200) ∧ h.1[s + 12]? = some (100, 60) ∧ h.1[s + 13]? = some (100, 60) ∧ h.2.2.1 (s + 1) 0 = some (s + 2) ∧ h.2.2.1 (s + 1) 1 = some (s + 8) ∧ h.2.2.1 (s + 1) 2 = some (s + 9) ∧ h.2.2.1 (s + 1) 3 = some (s + 10) ∧ h.2.2.1 (s + 1) 4 = some (s + 11) ∧ h.2.2.1 (s + 1) 5 = some (s + 12) ∧ h.2.2.1 (s + 1) 6 = some (s + 13) ∧ 28 ≤ s ∧ h.1[s + 21]? = some (100, 1200) := by
  rcases hS with rfl | rfl <;> refine ⟨?_, ?_, ?_, ?_, ?_, ?_, ?_, ?_, g.2 _ _ _ rfl, g.2 _ _ _ rfl, g.2 _ _ _ rfl, g.2 _ _ _ rfl, g.2 _ _ _ rfl, g.2 _ _ _ rfl, g.2 _ _ _ rfl, by omega, ?_⟩ <;> (rw [g.1]; rfl)
theorem isS_T {s t : Nat} (hS : isS s) (ht : isT t) {a : Nat} (h1 : s ≤ a) (h2 : a ≤ s + 24) : a < t ∨ t + 244 ≤ a := by
  rcases hS with rfl | rfl <;> rcases ht with rfl | rfl | rfl | rfl <;> omega
theorem itm_S {h : Hp} {s t i : Nat} {x : Tx} (hS : isS s) (ht : isT t) (hR : RepC h t x) (hi : i < 60) : itm h t i + 3 < s ∨ s + 24 < itm h t i := by
  obtain ⟨q, hq, e⟩ := (hR.2.2.1 i hi).2
  rcases hS with rfl | rfl <;> rcases ht with rfl | rfl | rfl | rfl <;> omega
theorem pcs_eq {x : Tx} (hok : okTx x) {i : Nat} (hi : i < x.1) : (pcs x i : Int) = x.2.1 4 i ∧ pcs x i ≤ 20 := by
  have h := hok.2.1 i hi
  unfold okIt at h
  unfold pcs
  omega
set_option maxRecDepth 8000 in
theorem c_breakLines {L : Nat} {h : Hp} {s t : Nat} {x : Tx} (g : GG L h) (hS : isS s) (ht : isT t) (hR : RepC h t x) {lt : LT} (hok : okTx x) (hl : okLt x lt) {i : Nat} (hi : i < x.1) (hLt : ∀ k, k < pcs x i → h.2.1 (s + 21) (fst x i + k) = lt i k) : RN 68 0 [some (.inr (.inr (some (s + 1)))), some (.inr (.inr (some (itm h t i)))), some (.inl (fst x i : Int)), some (.inr (.inr (some (s + 21)))), some (.inl (x.2.2.2 1)), none, none, none, none, none, none] [] h 0 0 (fun v h2 => Sm (fun a k => a = s + 12 ∨ (a = s + 10 ∧ fst x i ≤ k)) h h2 ∧ (∀ l, l < nli x lt i → h2.2.1 (s + 12) l = ndi x lt i l) ∧ (∀ k, k < pcs x i → h2.2.1 (s + 10) (fst x i + k) = (loi x lt i k : Int)) ∧ v = some (.inl (nli x lt i : Int))) := by
  have hm : mrec 68 = some nM68 := rfl
  have n60 := hok.1
  obtain ⟨ep, ep2⟩ := pcs_eq hok hi
  have hIt := itm_S hS ht hR (i := i) (by omega)
  have hf := fst_le hok i (by omega)
  have hst0 := hok.2.2.2.2
  unfold okStl at hst0
  have g1 := g
  obtain ⟨G1, G2, G8, G9, G10, G11, G12, G13, K0, K1, K2, K3, K4, K5, K6, S28, G21⟩ := g1.ly hS
  refine r_iconst hm rfl (k := ?_)
  refine r_istore hm rfl (k := ?_)
  refine r_iconst hm rfl (k := ?_)
  refine r_istore hm rfl (k := ?_)
  refine r_aload_n hm rfl (k := ?_)
  refine r_getR (hm := hm) (hf := rfl) (hd := rfl) (hs := (by first | assumption | exact I1 _ (by omega) | exact I2 _ (by omega) | exact I3 _ (by omega) | exact I4 _ (by omega))) (hv := (by first | exact putI_eq | exact (putI_ne (by omega)).trans (by first | exact putI_eq | exact (putI_ne (by omega)).trans (by first | exact putI_eq | exact (putI_ne (by omega)).trans (by first | first | assumption | exact I0 _ (by omega) | exact J0 _ (by omega) | exact J1 _ (by omega) | exact J2 _ (by omega) | exact F1 _ (by omega) | exact F2 _ (by omega) | exact F4 _ (by omega) | exact P0 _ _ (by omega) (by omega) | exact P1 _ _ (by omega) (by omega) | exact P2 _ _ (by omega) (by omega) | exact eN _ (by omega) | exact eLt _ (by omega)) | first | assumption | exact I0 _ (by omega) | exact J0 _ (by omega) | exact J1 _ (by omega) | exact J2 _ (by omega) | exact F1 _ (by omega) | exact F2 _ (by omega) | exact F4 _ (by omega) | exact P0 _ _ (by omega) (by omega) | exact P1 _ _ (by omega) (by omega) | exact P2 _ _ (by omega) (by omega) | exact eN _ (by omega) | exact eLt _ (by omega)) | first | assumption | exact I0 _ (by omega) | exact J0 _ (by omega) | exact J1 _ (by omega) | exact J2 _ (by omega) | exact F1 _ (by omega) | exact F2 _ (by omega) | exact F4 _ (by omega) | exact P0 _ _ (by omega) (by omega) | exact P1 _ _ (by omega) (by omega) | exact P2 _ _ (by omega) (by omega) | exact eN _ (by omega) | exact eLt _ (by omega)) | first | assumption | exact I0 _ (by omega) | exact J0 _ (by omega) | exact J1 _ (by omega) | exact J2 _ (by omega) | exact F1 _ (by omega) | exact F2 _ (by omega) | exact F4 _ (by omega) | exact P0 _ _ (by omega) (by omega) | exact P1 _ _ (by omega) (by omega) | exact P2 _ _ (by omega) (by omega) | exact eN _ (by omega) | exact eLt _ (by omega))) (k := ?_)
  refine r_iconst hm rfl (k := ?_)
  refine r_iconst hm rfl (k := ?_)
  refine r_iast (hm := hm) (hf := rfl) (h28 := (by omega)) (hs := (by first | assumption | exact I1 _ (by omega) | exact I2 _ (by omega) | exact I3 _ (by omega) | exact I4 _ (by omega))) (kk := 0) (hi := by omega) (hn := (by omega)) (k := ?_)
  refine r_iconst hm rfl (k := ?_)
  refine r_istore hm rfl (k := ?_)
  suffices LP : ∀ (d k : Nat) (h1 : Hp) (ln : Nat) (fl : Int) (nd : Nat → Int) (lo : Nat → Nat) (z8 z9 z10 : Option Vl), k + d = pcs x i → lbN x lt i k = (ln, fl, nd, lo) → Sm (fun a k => a = s + 12 ∨ (a = s + 10 ∧ fst x i ≤ k)) h h1 → (∀ l, l ≤ ln → h1.2.1 (s + 12) l = nd l) → (∀ k2, k2 < k → h1.2.1 (s + 10) (fst x i + k2) = (lo k2 : Int)) → RN 68 16 [some (.inr (.inr (some (s + 1)))), some (.inr (.inr (some (itm h t i)))), some (.inl (fst x i : Int)), some (.inr (.inr (some (s + 21)))), some (.inl (x.2.2.2 1)), some (.inl (ln : Int)), some (.inl fl), some (.inl (k : Int)), z8, z9, z10] [] h1 0 0 (fun v h2 => Sm (fun a k => a = s + 12 ∨ (a = s + 10 ∧ fst x i ≤ k)) h h2 ∧ (∀ l, l < nli x lt i → h2.2.1 (s + 12) l = ndi x lt i l) ∧ (∀ k, k < pcs x i → h2.2.1 (s + 10) (fst x i + k) = (loi x lt i k : Int)) ∧ v = some (.inl (nli x lt i : Int))) from LP (pcs x i) 0 _ 0 0 (fun _ => 1) (fun _ => 0) _ _ _ (by omega) rfl (Sm.put Sm.refl (by omega)) (fun l hl9 => by rw [show l = 0 by omega]; exact putI_eq) (fun k2 hk2 => by omega)
  clear g1 G1 G2 G8 G9 G10 G11 G12 G13 K0 K1 K2 K3 K4 K5 K6 G21
  refine fun d => Nat.strongRecOn d (fun d ih => ?_)
  intro k h1 ln fl nd lo z8 z9 z10 hd hst S1 eN eO
  have g1 := S1.gg g
  obtain ⟨G1, G2, G8, G9, G10, G11, G12, G13, K0, K1, K2, K3, K4, K5, K6, S28, G21⟩ := g1.ly hS
  obtain ⟨T1, T2, T3, T4, T5, T6, T7⟩ := g1.tx ht
  have hR1 := S1.repC (fun a k q9 => isS_T hS ht (a := a) (by omega) (by omega)) hR
  obtain ⟨I0, I1, I2, I3, I4, J0, J1, J2, F0, F1, F2, F3, F4, P0, P1, P2⟩ := hR1.use g1 ht
  obtain ⟨R1, R2, R3, R4, R5, R6, R7⟩ := id hR1
  simp only [S1.itm] at I0 I1 I2 I3 I4 J0 J1 J2 F0 F1 F2 F3 F4 P0 P1 P2
  obtain ⟨b1, b2, b3, b4, b5, b6⟩ := lbN_ok hok hl hi k (by omega)
  rw [hst] at b1 b2 b3 b4 b5 b6
  dsimp only at b1 b2 b3 b4 b5 b6
  have eLt : ∀ k, k < pcs x i → h1.2.1 (s + 21) (fst x i + k) = lt i k := fun k hk => (S1.2.2 _ _ (by omega)).trans (hLt k hk)
  refine r_iload hm rfl (k := ?_)
  refine r_aload_n hm rfl (k := ?_)
  refine r_getI (hm := hm) (hf := rfl) (hd := rfl) (hs := (by first | assumption | exact I1 _ (by omega) | exact I2 _ (by omega) | exact I3 _ (by omega) | exact I4 _ (by omega))) (hv := (by first | exact putI_eq | exact (putI_ne (by omega)).trans (by first | exact putI_eq | exact (putI_ne (by omega)).trans (by first | exact putI_eq | exact (putI_ne (by omega)).trans (by first | first | assumption | exact I0 _ (by omega) | exact J0 _ (by omega) | exact J1 _ (by omega) | exact J2 _ (by omega) | exact F1 _ (by omega) | exact F2 _ (by omega) | exact F4 _ (by omega) | exact P0 _ _ (by omega) (by omega) | exact P1 _ _ (by omega) (by omega) | exact P2 _ _ (by omega) (by omega) | exact eN _ (by omega) | exact eLt _ (by omega)) | first | assumption | exact I0 _ (by omega) | exact J0 _ (by omega) | exact J1 _ (by omega) | exact J2 _ (by omega) | exact F1 _ (by omega) | exact F2 _ (by omega) | exact F4 _ (by omega) | exact P0 _ _ (by omega) (by omega) | exact P1 _ _ (by omega) (by omega) | exact P2 _ _ (by omega) (by omega) | exact eN _ (by omega) | exact eLt _ (by omega)) | first | assumption | exact I0 _ (by omega) | exact J0 _ (by omega) | exact J1 _ (by omega) | exact J2 _ (by omega) | exact F1 _ (by omega) | exact F2 _ (by omega) | exact F4 _ (by omega) | exact P0 _ _ (by omega) (by omega) | exact P1 _ _ (by omega) (by omega) | exact P2 _ _ (by omega) (by omega) | exact eN _ (by omega) | exact eLt _ (by omega)) | first | assumption | exact I0 _ (by omega) | exact J0 _ (by omega) | exact J1 _ (by omega) | exact J2 _ (by omega) | exact F1 _ (by omega) | exact F2 _ (by omega) | exact F4 _ (by omega) | exact P0 _ _ (by omega) (by omega) | exact P1 _ _ (by omega) (by omega) | exact P2 _ _ (by omega) (by omega) | exact eN _ (by omega) | exact eLt _ (by omega))) (k := ?_)
  refine r_icmp_ge (t := 153) hm rfl rfl (fun c22 => ?_) (fun c22 => ?_)
  · refine r_aload_n hm rfl (k := ?_)
    refine r_getI (hm := hm) (hf := rfl) (hd := rfl) (hs := (by first | assumption | exact I1 _ (by omega) | exact I2 _ (by omega) | exact I3 _ (by omega) | exact I4 _ (by omega))) (hv := (by first | exact putI_eq | exact (putI_ne (by omega)).trans (by first | exact putI_eq | exact (putI_ne (by omega)).trans (by first | exact putI_eq | exact (putI_ne (by omega)).trans (by first | first | assumption | exact I0 _ (by omega) | exact J0 _ (by omega) | exact J1 _ (by omega) | exact J2 _ (by omega) | exact F1 _ (by omega) | exact F2 _ (by omega) | exact F4 _ (by omega) | exact P0 _ _ (by omega) (by omega) | exact P1 _ _ (by omega) (by omega) | exact P2 _ _ (by omega) (by omega) | exact eN _ (by omega) | exact eLt _ (by omega)) | first | assumption | exact I0 _ (by omega) | exact J0 _ (by omega) | exact J1 _ (by omega) | exact J2 _ (by omega) | exact F1 _ (by omega) | exact F2 _ (by omega) | exact F4 _ (by omega) | exact P0 _ _ (by omega) (by omega) | exact P1 _ _ (by omega) (by omega) | exact P2 _ _ (by omega) (by omega) | exact eN _ (by omega) | exact eLt _ (by omega)) | first | assumption | exact I0 _ (by omega) | exact J0 _ (by omega) | exact J1 _ (by omega) | exact J2 _ (by omega) | exact F1 _ (by omega) | exact F2 _ (by omega) | exact F4 _ (by omega) | exact P0 _ _ (by omega) (by omega) | exact P1 _ _ (by omega) (by omega) | exact P2 _ _ (by omega) (by omega) | exact eN _ (by omega) | exact eLt _ (by omega)) | first | assumption | exact I0 _ (by omega) | exact J0 _ (by omega) | exact J1 _ (by omega) | exact J2 _ (by omega) | exact F1 _ (by omega) | exact F2 _ (by omega) | exact F4 _ (by omega) | exact P0 _ _ (by omega) (by omega) | exact P1 _ _ (by omega) (by omega) | exact P2 _ _ (by omega) (by omega) | exact eN _ (by omega) | exact eLt _ (by omega))) (k := ?_)
    refine r_if_ne (t := 164) hm rfl rfl (fun c157 => ?_) (fun c157 => ?_)
    · refine r_iload hm rfl (k := ?_)
      refine r_iconst hm rfl (k := ?_)
      refine r_iadd hm rfl (hr := (by omega)) (k := ?_)
      refine r_ireturn hm rfl rfl (by rfl) (Nat.le_of_ble_eq_true rfl) (Nat.le_of_ble_eq_true rfl) ?_
      have ek : k = pcs x i := by omega
      subst ek
      unfold nli ndi loi
      rw [hst]
      rw [if_neg (by omega)]
      exact ⟨S1, fun l hl9 => eN l (by omega), eO, rfl⟩
    · refine r_iconst hm rfl (k := ?_)
      refine r_goto (t := 168) hm rfl (k := ?_)
      refine r_ireturn hm rfl rfl (by rfl) (Nat.le_of_ble_eq_true rfl) (Nat.le_of_ble_eq_true rfl) ?_
      have ek : k = pcs x i := by omega
      subst ek
      unfold nli ndi loi
      rw [hst]
      rw [if_pos (by omega)]
      exact ⟨S1, fun l hl9 => absurd hl9 (Nat.not_lt_zero _), eO, rfl⟩
  · have hw := hl i k hi (by omega)
    have hz := hok.2.2.1 i k hi (by omega)
    unfold okPc at hz
    have bl := b3 ln
    have bl1 := b3 (ln + 1)
    have bl2 := b4 (ln + 1) (by omega)
    refine r_aload_n hm rfl (k := ?_)
    refine r_getR (hm := hm) (hf := rfl) (hd := rfl) (hs := (by first | assumption | exact I1 _ (by omega) | exact I2 _ (by omega) | exact I3 _ (by omega) | exact I4 _ (by omega))) (hv := (by first | exact putI_eq | exact (putI_ne (by omega)).trans (by first | exact putI_eq | exact (putI_ne (by omega)).trans (by first | exact putI_eq | exact (putI_ne (by omega)).trans (by first | first | assumption | exact I0 _ (by omega) | exact J0 _ (by omega) | exact J1 _ (by omega) | exact J2 _ (by omega) | exact F1 _ (by omega) | exact F2 _ (by omega) | exact F4 _ (by omega) | exact P0 _ _ (by omega) (by omega) | exact P1 _ _ (by omega) (by omega) | exact P2 _ _ (by omega) (by omega) | exact eN _ (by omega) | exact eLt _ (by omega)) | first | assumption | exact I0 _ (by omega) | exact J0 _ (by omega) | exact J1 _ (by omega) | exact J2 _ (by omega) | exact F1 _ (by omega) | exact F2 _ (by omega) | exact F4 _ (by omega) | exact P0 _ _ (by omega) (by omega) | exact P1 _ _ (by omega) (by omega) | exact P2 _ _ (by omega) (by omega) | exact eN _ (by omega) | exact eLt _ (by omega)) | first | assumption | exact I0 _ (by omega) | exact J0 _ (by omega) | exact J1 _ (by omega) | exact J2 _ (by omega) | exact F1 _ (by omega) | exact F2 _ (by omega) | exact F4 _ (by omega) | exact P0 _ _ (by omega) (by omega) | exact P1 _ _ (by omega) (by omega) | exact P2 _ _ (by omega) (by omega) | exact eN _ (by omega) | exact eLt _ (by omega)) | first | assumption | exact I0 _ (by omega) | exact J0 _ (by omega) | exact J1 _ (by omega) | exact J2 _ (by omega) | exact F1 _ (by omega) | exact F2 _ (by omega) | exact F4 _ (by omega) | exact P0 _ _ (by omega) (by omega) | exact P1 _ _ (by omega) (by omega) | exact P2 _ _ (by omega) (by omega) | exact eN _ (by omega) | exact eLt _ (by omega))) (k := ?_)
    refine r_iload hm rfl (k := ?_)
    refine r_iald (hm := hm) (hf := rfl) (hs := (by first | assumption | exact I1 _ (by omega) | exact I2 _ (by omega) | exact I3 _ (by omega) | exact I4 _ (by omega))) (hi := rfl) (hn := (by omega)) (hv := (by first | exact putI_eq | exact (putI_ne (by omega)).trans (by first | exact putI_eq | exact (putI_ne (by omega)).trans (by first | exact putI_eq | exact (putI_ne (by omega)).trans (by first | first | assumption | exact I0 _ (by omega) | exact J0 _ (by omega) | exact J1 _ (by omega) | exact J2 _ (by omega) | exact F1 _ (by omega) | exact F2 _ (by omega) | exact F4 _ (by omega) | exact P0 _ _ (by omega) (by omega) | exact P1 _ _ (by omega) (by omega) | exact P2 _ _ (by omega) (by omega) | exact eN _ (by omega) | exact eLt _ (by omega)) | first | assumption | exact I0 _ (by omega) | exact J0 _ (by omega) | exact J1 _ (by omega) | exact J2 _ (by omega) | exact F1 _ (by omega) | exact F2 _ (by omega) | exact F4 _ (by omega) | exact P0 _ _ (by omega) (by omega) | exact P1 _ _ (by omega) (by omega) | exact P2 _ _ (by omega) (by omega) | exact eN _ (by omega) | exact eLt _ (by omega)) | first | assumption | exact I0 _ (by omega) | exact J0 _ (by omega) | exact J1 _ (by omega) | exact J2 _ (by omega) | exact F1 _ (by omega) | exact F2 _ (by omega) | exact F4 _ (by omega) | exact P0 _ _ (by omega) (by omega) | exact P1 _ _ (by omega) (by omega) | exact P2 _ _ (by omega) (by omega) | exact eN _ (by omega) | exact eLt _ (by omega)) | first | assumption | exact I0 _ (by omega) | exact J0 _ (by omega) | exact J1 _ (by omega) | exact J2 _ (by omega) | exact F1 _ (by omega) | exact F2 _ (by omega) | exact F4 _ (by omega) | exact P0 _ _ (by omega) (by omega) | exact P1 _ _ (by omega) (by omega) | exact P2 _ _ (by omega) (by omega) | exact eN _ (by omega) | exact eLt _ (by omega))) (k := ?_)
    refine r_iconst hm rfl (k := ?_)
    refine r_icmp_ne (t := 40) hm rfl rfl (fun c33 => ?_) (fun c33 => ?_)
    · refine r_iconst hm rfl (k := ?_)
      refine r_istore hm rfl (k := ?_)
      refine r_aload_n hm rfl (k := ?_)
      refine r_iload_n hm rfl (k := ?_)
      refine r_iload hm rfl (k := ?_)
      refine r_iadd hm rfl (hr := (by omega)) (k := ?_)
      refine r_iald (hm := hm) (hf := rfl) (hs := (by first | assumption | exact I1 _ (by omega) | exact I2 _ (by omega) | exact I3 _ (by omega) | exact I4 _ (by omega))) (kk := fst x i + k) (hi := by omega) (hn := (by omega)) (hv := (by first | exact putI_eq | exact (putI_ne (by omega)).trans (by first | exact putI_eq | exact (putI_ne (by omega)).trans (by first | exact putI_eq | exact (putI_ne (by omega)).trans (by first | first | assumption | exact I0 _ (by omega) | exact J0 _ (by omega) | exact J1 _ (by omega) | exact J2 _ (by omega) | exact F1 _ (by omega) | exact F2 _ (by omega) | exact F4 _ (by omega) | exact P0 _ _ (by omega) (by omega) | exact P1 _ _ (by omega) (by omega) | exact P2 _ _ (by omega) (by omega) | exact eN _ (by omega) | exact eLt _ (by omega)) | first | assumption | exact I0 _ (by omega) | exact J0 _ (by omega) | exact J1 _ (by omega) | exact J2 _ (by omega) | exact F1 _ (by omega) | exact F2 _ (by omega) | exact F4 _ (by omega) | exact P0 _ _ (by omega) (by omega) | exact P1 _ _ (by omega) (by omega) | exact P2 _ _ (by omega) (by omega) | exact eN _ (by omega) | exact eLt _ (by omega)) | first | assumption | exact I0 _ (by omega) | exact J0 _ (by omega) | exact J1 _ (by omega) | exact J2 _ (by omega) | exact F1 _ (by omega) | exact F2 _ (by omega) | exact F4 _ (by omega) | exact P0 _ _ (by omega) (by omega) | exact P1 _ _ (by omega) (by omega) | exact P2 _ _ (by omega) (by omega) | exact eN _ (by omega) | exact eLt _ (by omega)) | first | assumption | exact I0 _ (by omega) | exact J0 _ (by omega) | exact J1 _ (by omega) | exact J2 _ (by omega) | exact F1 _ (by omega) | exact F2 _ (by omega) | exact F4 _ (by omega) | exact P0 _ _ (by omega) (by omega) | exact P1 _ _ (by omega) (by omega) | exact P2 _ _ (by omega) (by omega) | exact eN _ (by omega) | exact eLt _ (by omega))) (k := ?_)
      refine r_istore hm rfl (k := ?_)
      refine r_iload hm rfl (k := ?_)
      refine r_if_ne (t := 61) hm rfl rfl (fun c53 => ?_) (fun c53 => ?_)
      · exfalso; omega
      · refine r_iload hm rfl (k := ?_)
        refine r_if_ne (t := 65) hm rfl rfl (fun c58 => ?_) (fun c58 => ?_)
        · refine r_iconst hm rfl (k := ?_)
          refine r_istore hm rfl (k := ?_)
          refine r_iload hm rfl (k := ?_)
          refine r_if_le (t := 104) hm rfl rfl (fun c70 => ?_) (fun c70 => ?_)
          · exfalso; omega
          · refine r_iload hm rfl (k := ?_)
            refine r_iload hm rfl (k := ?_)
            refine r_iadd hm rfl (hr := (by omega)) (k := ?_)
            refine r_iload hm rfl (k := ?_)
            refine r_iadd hm rfl (hr := (by omega)) (k := ?_)
            refine r_iload hm rfl (k := ?_)
            refine r_icmp_le (t := 104) hm rfl rfl (fun c83 => ?_) (fun c83 => ?_)
            · refine r_iload hm rfl (k := ?_)
              refine r_iload hm rfl (k := ?_)
              refine r_iload hm rfl (k := ?_)
              refine r_iadd hm rfl (hr := (by omega)) (k := ?_)
              refine r_iadd hm rfl (hr := (by omega)) (k := ?_)
              refine r_istore hm rfl (k := ?_)
              refine r_iload hm rfl (k := ?_)
              refine r_if_eq (t := 136) hm rfl rfl (fun c116 => ?_) (fun c116 => ?_)
              · refine r_aload_n hm rfl (k := ?_)
                refine r_getR (hm := hm) (hf := rfl) (hd := rfl) (hs := (by first | assumption | exact I1 _ (by omega) | exact I2 _ (by omega) | exact I3 _ (by omega) | exact I4 _ (by omega))) (hv := (by first | exact putI_eq | exact (putI_ne (by omega)).trans (by first | exact putI_eq | exact (putI_ne (by omega)).trans (by first | exact putI_eq | exact (putI_ne (by omega)).trans (by first | first | assumption | exact I0 _ (by omega) | exact J0 _ (by omega) | exact J1 _ (by omega) | exact J2 _ (by omega) | exact F1 _ (by omega) | exact F2 _ (by omega) | exact F4 _ (by omega) | exact P0 _ _ (by omega) (by omega) | exact P1 _ _ (by omega) (by omega) | exact P2 _ _ (by omega) (by omega) | exact eN _ (by omega) | exact eLt _ (by omega)) | first | assumption | exact I0 _ (by omega) | exact J0 _ (by omega) | exact J1 _ (by omega) | exact J2 _ (by omega) | exact F1 _ (by omega) | exact F2 _ (by omega) | exact F4 _ (by omega) | exact P0 _ _ (by omega) (by omega) | exact P1 _ _ (by omega) (by omega) | exact P2 _ _ (by omega) (by omega) | exact eN _ (by omega) | exact eLt _ (by omega)) | first | assumption | exact I0 _ (by omega) | exact J0 _ (by omega) | exact J1 _ (by omega) | exact J2 _ (by omega) | exact F1 _ (by omega) | exact F2 _ (by omega) | exact F4 _ (by omega) | exact P0 _ _ (by omega) (by omega) | exact P1 _ _ (by omega) (by omega) | exact P2 _ _ (by omega) (by omega) | exact eN _ (by omega) | exact eLt _ (by omega)) | first | assumption | exact I0 _ (by omega) | exact J0 _ (by omega) | exact J1 _ (by omega) | exact J2 _ (by omega) | exact F1 _ (by omega) | exact F2 _ (by omega) | exact F4 _ (by omega) | exact P0 _ _ (by omega) (by omega) | exact P1 _ _ (by omega) (by omega) | exact P2 _ _ (by omega) (by omega) | exact eN _ (by omega) | exact eLt _ (by omega))) (k := ?_)
                refine r_iload_n hm rfl (k := ?_)
                refine r_iload hm rfl (k := ?_)
                refine r_iadd hm rfl (hr := (by omega)) (k := ?_)
                refine r_iload hm rfl (k := ?_)
                refine r_iast (hm := hm) (hf := rfl) (h28 := (by omega)) (hs := (by first | assumption | exact I1 _ (by omega) | exact I2 _ (by omega) | exact I3 _ (by omega) | exact I4 _ (by omega))) (kk := fst x i + k) (hi := by omega) (hn := (by omega)) (k := ?_)
                refine r_iinc hm rfl (hr := (by omega)) (k := ?_)
                refine r_goto (t := 16) hm rfl (k := ?_)
                have eg : gp x i k = 1 := if_neg (by omega)
                have en : nz x i k = 0 := if_neg (by omega)
                have e9 : lbN x lt i (k + 1) = (ln, fl + gp x i k + lt i k, upf nd ln (nd ln + nz x i k), upf lo k ln) := by
                  rw [show lbN x lt i (k + 1) = lb1 x lt i k (lbN x lt i k) from rfl, hst]
                  exact if_neg (fun z9 => by obtain ⟨z1, z2⟩ := z9; rw [eg] at z2; dsimp only at z2; omega)
                refine ih (d - 1) (by omega) (k + 1) _ ln (fl + (1 + lt i k)) (upf nd ln (nd ln + nz x i k)) (upf lo k ln) _ _ _ (by omega) (e9.trans (by rw [eg, Int.add_assoc])) (Sm.put S1 (by omega)) (fun l hl9 => ?_) (fun k2 hk2 => ?_)
                · simp (disch := omega) only [putI_fne, putI_feq, upf_ne, upf_eq]
                  by_cases el : l = ln
                  · subst el
                    simp (disch := omega) only [putI_fne, putI_feq, upf_ne, upf_eq]
                    rw [en, eN _ (by omega), Int.add_zero]
                  · simp (disch := omega) only [putI_fne, putI_feq, upf_ne, upf_eq]
                    exact eN l (by omega)
                · simp (disch := omega) only [putI_fne, putI_feq, upf_ne, upf_eq]
                  by_cases ek : k2 = k
                  · subst ek
                    simp (disch := omega) only [putI_fne, putI_feq, upf_ne, upf_eq]
                    try rfl
                  · simp (disch := omega) only [putI_fne, putI_feq, upf_ne, upf_eq]
                    exact eO k2 (by omega)
              · exfalso; omega
            · refine r_iinc hm rfl (hr := (by omega)) (k := ?_)
              refine r_aload_n hm rfl (k := ?_)
              refine r_getR (hm := hm) (hf := rfl) (hd := rfl) (hs := (by first | assumption | exact I1 _ (by omega) | exact I2 _ (by omega) | exact I3 _ (by omega) | exact I4 _ (by omega))) (hv := (by first | exact putI_eq | exact (putI_ne (by omega)).trans (by first | exact putI_eq | exact (putI_ne (by omega)).trans (by first | exact putI_eq | exact (putI_ne (by omega)).trans (by first | first | assumption | exact I0 _ (by omega) | exact J0 _ (by omega) | exact J1 _ (by omega) | exact J2 _ (by omega) | exact F1 _ (by omega) | exact F2 _ (by omega) | exact F4 _ (by omega) | exact P0 _ _ (by omega) (by omega) | exact P1 _ _ (by omega) (by omega) | exact P2 _ _ (by omega) (by omega) | exact eN _ (by omega) | exact eLt _ (by omega)) | first | assumption | exact I0 _ (by omega) | exact J0 _ (by omega) | exact J1 _ (by omega) | exact J2 _ (by omega) | exact F1 _ (by omega) | exact F2 _ (by omega) | exact F4 _ (by omega) | exact P0 _ _ (by omega) (by omega) | exact P1 _ _ (by omega) (by omega) | exact P2 _ _ (by omega) (by omega) | exact eN _ (by omega) | exact eLt _ (by omega)) | first | assumption | exact I0 _ (by omega) | exact J0 _ (by omega) | exact J1 _ (by omega) | exact J2 _ (by omega) | exact F1 _ (by omega) | exact F2 _ (by omega) | exact F4 _ (by omega) | exact P0 _ _ (by omega) (by omega) | exact P1 _ _ (by omega) (by omega) | exact P2 _ _ (by omega) (by omega) | exact eN _ (by omega) | exact eLt _ (by omega)) | first | assumption | exact I0 _ (by omega) | exact J0 _ (by omega) | exact J1 _ (by omega) | exact J2 _ (by omega) | exact F1 _ (by omega) | exact F2 _ (by omega) | exact F4 _ (by omega) | exact P0 _ _ (by omega) (by omega) | exact P1 _ _ (by omega) (by omega) | exact P2 _ _ (by omega) (by omega) | exact eN _ (by omega) | exact eLt _ (by omega))) (k := ?_)
              refine r_iload hm rfl (k := ?_)
              refine r_iconst hm rfl (k := ?_)
              refine r_iast (hm := hm) (hf := rfl) (h28 := (by omega)) (hs := (by first | assumption | exact I1 _ (by omega) | exact I2 _ (by omega) | exact I3 _ (by omega) | exact I4 _ (by omega))) (kk := ln + 1) (hi := by omega) (hn := (by omega)) (k := ?_)
              refine r_iload hm rfl (k := ?_)
              refine r_istore hm rfl (k := ?_)
              refine r_goto (t := 114) hm rfl (k := ?_)
              refine r_iload hm rfl (k := ?_)
              refine r_if_eq (t := 136) hm rfl rfl (fun c116 => ?_) (fun c116 => ?_)
              · refine r_aload_n hm rfl (k := ?_)
                refine r_getR (hm := hm) (hf := rfl) (hd := rfl) (hs := (by first | assumption | exact I1 _ (by omega) | exact I2 _ (by omega) | exact I3 _ (by omega) | exact I4 _ (by omega))) (hv := (by first | exact putI_eq | exact (putI_ne (by omega)).trans (by first | exact putI_eq | exact (putI_ne (by omega)).trans (by first | exact putI_eq | exact (putI_ne (by omega)).trans (by first | first | assumption | exact I0 _ (by omega) | exact J0 _ (by omega) | exact J1 _ (by omega) | exact J2 _ (by omega) | exact F1 _ (by omega) | exact F2 _ (by omega) | exact F4 _ (by omega) | exact P0 _ _ (by omega) (by omega) | exact P1 _ _ (by omega) (by omega) | exact P2 _ _ (by omega) (by omega) | exact eN _ (by omega) | exact eLt _ (by omega)) | first | assumption | exact I0 _ (by omega) | exact J0 _ (by omega) | exact J1 _ (by omega) | exact J2 _ (by omega) | exact F1 _ (by omega) | exact F2 _ (by omega) | exact F4 _ (by omega) | exact P0 _ _ (by omega) (by omega) | exact P1 _ _ (by omega) (by omega) | exact P2 _ _ (by omega) (by omega) | exact eN _ (by omega) | exact eLt _ (by omega)) | first | assumption | exact I0 _ (by omega) | exact J0 _ (by omega) | exact J1 _ (by omega) | exact J2 _ (by omega) | exact F1 _ (by omega) | exact F2 _ (by omega) | exact F4 _ (by omega) | exact P0 _ _ (by omega) (by omega) | exact P1 _ _ (by omega) (by omega) | exact P2 _ _ (by omega) (by omega) | exact eN _ (by omega) | exact eLt _ (by omega)) | first | assumption | exact I0 _ (by omega) | exact J0 _ (by omega) | exact J1 _ (by omega) | exact J2 _ (by omega) | exact F1 _ (by omega) | exact F2 _ (by omega) | exact F4 _ (by omega) | exact P0 _ _ (by omega) (by omega) | exact P1 _ _ (by omega) (by omega) | exact P2 _ _ (by omega) (by omega) | exact eN _ (by omega) | exact eLt _ (by omega))) (k := ?_)
                refine r_iload_n hm rfl (k := ?_)
                refine r_iload hm rfl (k := ?_)
                refine r_iadd hm rfl (hr := (by omega)) (k := ?_)
                refine r_iload hm rfl (k := ?_)
                refine r_iast (hm := hm) (hf := rfl) (h28 := (by omega)) (hs := (by first | assumption | exact I1 _ (by omega) | exact I2 _ (by omega) | exact I3 _ (by omega) | exact I4 _ (by omega))) (kk := fst x i + k) (hi := by omega) (hn := (by omega)) (k := ?_)
                refine r_iinc hm rfl (hr := (by omega)) (k := ?_)
                refine r_goto (t := 16) hm rfl (k := ?_)
                have eg : gp x i k = 1 := if_neg (by omega)
                have en : nz x i k = 0 := if_neg (by omega)
                have e9 : lbN x lt i (k + 1) = (ln + 1, lt i k, upf nd (ln + 1) (nd (ln + 1) + nz x i k), upf lo k (ln + 1)) := by
                  rw [show lbN x lt i (k + 1) = lb1 x lt i k (lbN x lt i k) from rfl, hst]
                  exact if_pos ⟨by omega, by rw [eg]; dsimp only; omega⟩
                refine ih (d - 1) (by omega) (k + 1) _ (ln + 1) (lt i k) (upf nd (ln + 1) (nd (ln + 1) + nz x i k)) (upf lo k (ln + 1)) _ _ _ (by omega) e9 (Sm.put (Sm.put S1 (by omega)) (by omega)) (fun l hl9 => ?_) (fun k2 hk2 => ?_)
                · simp (disch := omega) only [putI_fne, putI_feq, upf_ne, upf_eq]
                  by_cases el : l = (ln + 1)
                  · subst el
                    simp (disch := omega) only [putI_fne, putI_feq, upf_ne, upf_eq]
                    rw [en, bl2]; first | done | (rw [Int.add_zero])
                  · simp (disch := omega) only [putI_fne, putI_feq, upf_ne, upf_eq]
                    exact eN l (by omega)
                · simp (disch := omega) only [putI_fne, putI_feq, upf_ne, upf_eq]
                  by_cases ek : k2 = k
                  · subst ek
                    simp (disch := omega) only [putI_fne, putI_feq, upf_ne, upf_eq]
                    try rfl
                  · simp (disch := omega) only [putI_fne, putI_feq, upf_ne, upf_eq]
                    exact eO k2 (by omega)
              · exfalso; omega
        · refine r_iconst hm rfl (k := ?_)
          refine r_goto (t := 66) hm rfl (k := ?_)
          refine r_istore hm rfl (k := ?_)
          refine r_iload hm rfl (k := ?_)
          refine r_if_le (t := 104) hm rfl rfl (fun c70 => ?_) (fun c70 => ?_)
          · refine r_iload hm rfl (k := ?_)
            refine r_iload hm rfl (k := ?_)
            refine r_iload hm rfl (k := ?_)
            refine r_iadd hm rfl (hr := (by omega)) (k := ?_)
            refine r_iadd hm rfl (hr := (by omega)) (k := ?_)
            refine r_istore hm rfl (k := ?_)
            refine r_iload hm rfl (k := ?_)
            refine r_if_eq (t := 136) hm rfl rfl (fun c116 => ?_) (fun c116 => ?_)
            · refine r_aload_n hm rfl (k := ?_)
              refine r_getR (hm := hm) (hf := rfl) (hd := rfl) (hs := (by first | assumption | exact I1 _ (by omega) | exact I2 _ (by omega) | exact I3 _ (by omega) | exact I4 _ (by omega))) (hv := (by first | exact putI_eq | exact (putI_ne (by omega)).trans (by first | exact putI_eq | exact (putI_ne (by omega)).trans (by first | exact putI_eq | exact (putI_ne (by omega)).trans (by first | first | assumption | exact I0 _ (by omega) | exact J0 _ (by omega) | exact J1 _ (by omega) | exact J2 _ (by omega) | exact F1 _ (by omega) | exact F2 _ (by omega) | exact F4 _ (by omega) | exact P0 _ _ (by omega) (by omega) | exact P1 _ _ (by omega) (by omega) | exact P2 _ _ (by omega) (by omega) | exact eN _ (by omega) | exact eLt _ (by omega)) | first | assumption | exact I0 _ (by omega) | exact J0 _ (by omega) | exact J1 _ (by omega) | exact J2 _ (by omega) | exact F1 _ (by omega) | exact F2 _ (by omega) | exact F4 _ (by omega) | exact P0 _ _ (by omega) (by omega) | exact P1 _ _ (by omega) (by omega) | exact P2 _ _ (by omega) (by omega) | exact eN _ (by omega) | exact eLt _ (by omega)) | first | assumption | exact I0 _ (by omega) | exact J0 _ (by omega) | exact J1 _ (by omega) | exact J2 _ (by omega) | exact F1 _ (by omega) | exact F2 _ (by omega) | exact F4 _ (by omega) | exact P0 _ _ (by omega) (by omega) | exact P1 _ _ (by omega) (by omega) | exact P2 _ _ (by omega) (by omega) | exact eN _ (by omega) | exact eLt _ (by omega)) | first | assumption | exact I0 _ (by omega) | exact J0 _ (by omega) | exact J1 _ (by omega) | exact J2 _ (by omega) | exact F1 _ (by omega) | exact F2 _ (by omega) | exact F4 _ (by omega) | exact P0 _ _ (by omega) (by omega) | exact P1 _ _ (by omega) (by omega) | exact P2 _ _ (by omega) (by omega) | exact eN _ (by omega) | exact eLt _ (by omega))) (k := ?_)
              refine r_iload_n hm rfl (k := ?_)
              refine r_iload hm rfl (k := ?_)
              refine r_iadd hm rfl (hr := (by omega)) (k := ?_)
              refine r_iload hm rfl (k := ?_)
              refine r_iast (hm := hm) (hf := rfl) (h28 := (by omega)) (hs := (by first | assumption | exact I1 _ (by omega) | exact I2 _ (by omega) | exact I3 _ (by omega) | exact I4 _ (by omega))) (kk := fst x i + k) (hi := by omega) (hn := (by omega)) (k := ?_)
              refine r_iinc hm rfl (hr := (by omega)) (k := ?_)
              refine r_goto (t := 16) hm rfl (k := ?_)
              have eg : gp x i k = 0 := if_pos (Or.inr (by omega))
              have en : nz x i k = 0 := if_neg (by omega)
              have e9 : lbN x lt i (k + 1) = (ln, fl + gp x i k + lt i k, upf nd ln (nd ln + nz x i k), upf lo k ln) := by
                rw [show lbN x lt i (k + 1) = lb1 x lt i k (lbN x lt i k) from rfl, hst]
                exact if_neg (fun z9 => by obtain ⟨z1, z2⟩ := z9; rw [eg] at z2; dsimp only at z2; omega)
              refine ih (d - 1) (by omega) (k + 1) _ ln (fl + (0 + lt i k)) (upf nd ln (nd ln + nz x i k)) (upf lo k ln) _ _ _ (by omega) (e9.trans (by rw [eg, Int.add_assoc])) (Sm.put S1 (by omega)) (fun l hl9 => ?_) (fun k2 hk2 => ?_)
              · simp (disch := omega) only [putI_fne, putI_feq, upf_ne, upf_eq]
                by_cases el : l = ln
                · subst el
                  simp (disch := omega) only [putI_fne, putI_feq, upf_ne, upf_eq]
                  rw [en, eN _ (by omega), Int.add_zero]
                · simp (disch := omega) only [putI_fne, putI_feq, upf_ne, upf_eq]
                  exact eN l (by omega)
              · simp (disch := omega) only [putI_fne, putI_feq, upf_ne, upf_eq]
                by_cases ek : k2 = k
                · subst ek
                  simp (disch := omega) only [putI_fne, putI_feq, upf_ne, upf_eq]
                  try rfl
                · simp (disch := omega) only [putI_fne, putI_feq, upf_ne, upf_eq]
                  exact eO k2 (by omega)
            · exfalso; omega
          · exfalso; omega
    · refine r_iconst hm rfl (k := ?_)
      refine r_goto (t := 41) hm rfl (k := ?_)
      refine r_istore hm rfl (k := ?_)
      refine r_aload_n hm rfl (k := ?_)
      refine r_iload_n hm rfl (k := ?_)
      refine r_iload hm rfl (k := ?_)
      refine r_iadd hm rfl (hr := (by omega)) (k := ?_)
      refine r_iald (hm := hm) (hf := rfl) (hs := (by first | assumption | exact I1 _ (by omega) | exact I2 _ (by omega) | exact I3 _ (by omega) | exact I4 _ (by omega))) (kk := fst x i + k) (hi := by omega) (hn := (by omega)) (hv := (by first | exact putI_eq | exact (putI_ne (by omega)).trans (by first | exact putI_eq | exact (putI_ne (by omega)).trans (by first | exact putI_eq | exact (putI_ne (by omega)).trans (by first | first | assumption | exact I0 _ (by omega) | exact J0 _ (by omega) | exact J1 _ (by omega) | exact J2 _ (by omega) | exact F1 _ (by omega) | exact F2 _ (by omega) | exact F4 _ (by omega) | exact P0 _ _ (by omega) (by omega) | exact P1 _ _ (by omega) (by omega) | exact P2 _ _ (by omega) (by omega) | exact eN _ (by omega) | exact eLt _ (by omega)) | first | assumption | exact I0 _ (by omega) | exact J0 _ (by omega) | exact J1 _ (by omega) | exact J2 _ (by omega) | exact F1 _ (by omega) | exact F2 _ (by omega) | exact F4 _ (by omega) | exact P0 _ _ (by omega) (by omega) | exact P1 _ _ (by omega) (by omega) | exact P2 _ _ (by omega) (by omega) | exact eN _ (by omega) | exact eLt _ (by omega)) | first | assumption | exact I0 _ (by omega) | exact J0 _ (by omega) | exact J1 _ (by omega) | exact J2 _ (by omega) | exact F1 _ (by omega) | exact F2 _ (by omega) | exact F4 _ (by omega) | exact P0 _ _ (by omega) (by omega) | exact P1 _ _ (by omega) (by omega) | exact P2 _ _ (by omega) (by omega) | exact eN _ (by omega) | exact eLt _ (by omega)) | first | assumption | exact I0 _ (by omega) | exact J0 _ (by omega) | exact J1 _ (by omega) | exact J2 _ (by omega) | exact F1 _ (by omega) | exact F2 _ (by omega) | exact F4 _ (by omega) | exact P0 _ _ (by omega) (by omega) | exact P1 _ _ (by omega) (by omega) | exact P2 _ _ (by omega) (by omega) | exact eN _ (by omega) | exact eLt _ (by omega))) (k := ?_)
      refine r_istore hm rfl (k := ?_)
      refine r_iload hm rfl (k := ?_)
      refine r_if_ne (t := 61) hm rfl rfl (fun c53 => ?_) (fun c53 => ?_)
      · refine r_iconst hm rfl (k := ?_)
        refine r_goto (t := 66) hm rfl (k := ?_)
        refine r_istore hm rfl (k := ?_)
        refine r_iload hm rfl (k := ?_)
        refine r_if_le (t := 104) hm rfl rfl (fun c70 => ?_) (fun c70 => ?_)
        · refine r_iload hm rfl (k := ?_)
          refine r_iload hm rfl (k := ?_)
          refine r_iload hm rfl (k := ?_)
          refine r_iadd hm rfl (hr := (by omega)) (k := ?_)
          refine r_iadd hm rfl (hr := (by omega)) (k := ?_)
          refine r_istore hm rfl (k := ?_)
          refine r_iload hm rfl (k := ?_)
          refine r_if_eq (t := 136) hm rfl rfl (fun c116 => ?_) (fun c116 => ?_)
          · exfalso; omega
          · refine r_aload_n hm rfl (k := ?_)
            refine r_getR (hm := hm) (hf := rfl) (hd := rfl) (hs := (by first | assumption | exact I1 _ (by omega) | exact I2 _ (by omega) | exact I3 _ (by omega) | exact I4 _ (by omega))) (hv := (by first | exact putI_eq | exact (putI_ne (by omega)).trans (by first | exact putI_eq | exact (putI_ne (by omega)).trans (by first | exact putI_eq | exact (putI_ne (by omega)).trans (by first | first | assumption | exact I0 _ (by omega) | exact J0 _ (by omega) | exact J1 _ (by omega) | exact J2 _ (by omega) | exact F1 _ (by omega) | exact F2 _ (by omega) | exact F4 _ (by omega) | exact P0 _ _ (by omega) (by omega) | exact P1 _ _ (by omega) (by omega) | exact P2 _ _ (by omega) (by omega) | exact eN _ (by omega) | exact eLt _ (by omega)) | first | assumption | exact I0 _ (by omega) | exact J0 _ (by omega) | exact J1 _ (by omega) | exact J2 _ (by omega) | exact F1 _ (by omega) | exact F2 _ (by omega) | exact F4 _ (by omega) | exact P0 _ _ (by omega) (by omega) | exact P1 _ _ (by omega) (by omega) | exact P2 _ _ (by omega) (by omega) | exact eN _ (by omega) | exact eLt _ (by omega)) | first | assumption | exact I0 _ (by omega) | exact J0 _ (by omega) | exact J1 _ (by omega) | exact J2 _ (by omega) | exact F1 _ (by omega) | exact F2 _ (by omega) | exact F4 _ (by omega) | exact P0 _ _ (by omega) (by omega) | exact P1 _ _ (by omega) (by omega) | exact P2 _ _ (by omega) (by omega) | exact eN _ (by omega) | exact eLt _ (by omega)) | first | assumption | exact I0 _ (by omega) | exact J0 _ (by omega) | exact J1 _ (by omega) | exact J2 _ (by omega) | exact F1 _ (by omega) | exact F2 _ (by omega) | exact F4 _ (by omega) | exact P0 _ _ (by omega) (by omega) | exact P1 _ _ (by omega) (by omega) | exact P2 _ _ (by omega) (by omega) | exact eN _ (by omega) | exact eLt _ (by omega))) (k := ?_)
            refine r_iload hm rfl (k := ?_)
            refine r_dup2 hm rfl (k := ?_)
            refine r_iald (hm := hm) (hf := rfl) (hs := (by first | assumption | exact I1 _ (by omega) | exact I2 _ (by omega) | exact I3 _ (by omega) | exact I4 _ (by omega))) (kk := ln) (hi := by omega) (hn := (by omega)) (hv := (by first | exact putI_eq | exact (putI_ne (by omega)).trans (by first | exact putI_eq | exact (putI_ne (by omega)).trans (by first | exact putI_eq | exact (putI_ne (by omega)).trans (by first | first | assumption | exact I0 _ (by omega) | exact J0 _ (by omega) | exact J1 _ (by omega) | exact J2 _ (by omega) | exact F1 _ (by omega) | exact F2 _ (by omega) | exact F4 _ (by omega) | exact P0 _ _ (by omega) (by omega) | exact P1 _ _ (by omega) (by omega) | exact P2 _ _ (by omega) (by omega) | exact eN _ (by omega) | exact eLt _ (by omega)) | first | assumption | exact I0 _ (by omega) | exact J0 _ (by omega) | exact J1 _ (by omega) | exact J2 _ (by omega) | exact F1 _ (by omega) | exact F2 _ (by omega) | exact F4 _ (by omega) | exact P0 _ _ (by omega) (by omega) | exact P1 _ _ (by omega) (by omega) | exact P2 _ _ (by omega) (by omega) | exact eN _ (by omega) | exact eLt _ (by omega)) | first | assumption | exact I0 _ (by omega) | exact J0 _ (by omega) | exact J1 _ (by omega) | exact J2 _ (by omega) | exact F1 _ (by omega) | exact F2 _ (by omega) | exact F4 _ (by omega) | exact P0 _ _ (by omega) (by omega) | exact P1 _ _ (by omega) (by omega) | exact P2 _ _ (by omega) (by omega) | exact eN _ (by omega) | exact eLt _ (by omega)) | first | assumption | exact I0 _ (by omega) | exact J0 _ (by omega) | exact J1 _ (by omega) | exact J2 _ (by omega) | exact F1 _ (by omega) | exact F2 _ (by omega) | exact F4 _ (by omega) | exact P0 _ _ (by omega) (by omega) | exact P1 _ _ (by omega) (by omega) | exact P2 _ _ (by omega) (by omega) | exact eN _ (by omega) | exact eLt _ (by omega))) (k := ?_)
            refine r_aload_n hm rfl (k := ?_)
            refine r_getR (hm := hm) (hf := rfl) (hd := rfl) (hs := (by first | assumption | exact I1 _ (by omega) | exact I2 _ (by omega) | exact I3 _ (by omega) | exact I4 _ (by omega))) (hv := (by first | exact putI_eq | exact (putI_ne (by omega)).trans (by first | exact putI_eq | exact (putI_ne (by omega)).trans (by first | exact putI_eq | exact (putI_ne (by omega)).trans (by first | first | assumption | exact I0 _ (by omega) | exact J0 _ (by omega) | exact J1 _ (by omega) | exact J2 _ (by omega) | exact F1 _ (by omega) | exact F2 _ (by omega) | exact F4 _ (by omega) | exact P0 _ _ (by omega) (by omega) | exact P1 _ _ (by omega) (by omega) | exact P2 _ _ (by omega) (by omega) | exact eN _ (by omega) | exact eLt _ (by omega)) | first | assumption | exact I0 _ (by omega) | exact J0 _ (by omega) | exact J1 _ (by omega) | exact J2 _ (by omega) | exact F1 _ (by omega) | exact F2 _ (by omega) | exact F4 _ (by omega) | exact P0 _ _ (by omega) (by omega) | exact P1 _ _ (by omega) (by omega) | exact P2 _ _ (by omega) (by omega) | exact eN _ (by omega) | exact eLt _ (by omega)) | first | assumption | exact I0 _ (by omega) | exact J0 _ (by omega) | exact J1 _ (by omega) | exact J2 _ (by omega) | exact F1 _ (by omega) | exact F2 _ (by omega) | exact F4 _ (by omega) | exact P0 _ _ (by omega) (by omega) | exact P1 _ _ (by omega) (by omega) | exact P2 _ _ (by omega) (by omega) | exact eN _ (by omega) | exact eLt _ (by omega)) | first | assumption | exact I0 _ (by omega) | exact J0 _ (by omega) | exact J1 _ (by omega) | exact J2 _ (by omega) | exact F1 _ (by omega) | exact F2 _ (by omega) | exact F4 _ (by omega) | exact P0 _ _ (by omega) (by omega) | exact P1 _ _ (by omega) (by omega) | exact P2 _ _ (by omega) (by omega) | exact eN _ (by omega) | exact eLt _ (by omega))) (k := ?_)
            refine r_iload hm rfl (k := ?_)
            refine r_iald (hm := hm) (hf := rfl) (hs := (by first | assumption | exact I1 _ (by omega) | exact I2 _ (by omega) | exact I3 _ (by omega) | exact I4 _ (by omega))) (hi := rfl) (hn := (by omega)) (hv := (by first | exact putI_eq | exact (putI_ne (by omega)).trans (by first | exact putI_eq | exact (putI_ne (by omega)).trans (by first | exact putI_eq | exact (putI_ne (by omega)).trans (by first | first | assumption | exact I0 _ (by omega) | exact J0 _ (by omega) | exact J1 _ (by omega) | exact J2 _ (by omega) | exact F1 _ (by omega) | exact F2 _ (by omega) | exact F4 _ (by omega) | exact P0 _ _ (by omega) (by omega) | exact P1 _ _ (by omega) (by omega) | exact P2 _ _ (by omega) (by omega) | exact eN _ (by omega) | exact eLt _ (by omega)) | first | assumption | exact I0 _ (by omega) | exact J0 _ (by omega) | exact J1 _ (by omega) | exact J2 _ (by omega) | exact F1 _ (by omega) | exact F2 _ (by omega) | exact F4 _ (by omega) | exact P0 _ _ (by omega) (by omega) | exact P1 _ _ (by omega) (by omega) | exact P2 _ _ (by omega) (by omega) | exact eN _ (by omega) | exact eLt _ (by omega)) | first | assumption | exact I0 _ (by omega) | exact J0 _ (by omega) | exact J1 _ (by omega) | exact J2 _ (by omega) | exact F1 _ (by omega) | exact F2 _ (by omega) | exact F4 _ (by omega) | exact P0 _ _ (by omega) (by omega) | exact P1 _ _ (by omega) (by omega) | exact P2 _ _ (by omega) (by omega) | exact eN _ (by omega) | exact eLt _ (by omega)) | first | assumption | exact I0 _ (by omega) | exact J0 _ (by omega) | exact J1 _ (by omega) | exact J2 _ (by omega) | exact F1 _ (by omega) | exact F2 _ (by omega) | exact F4 _ (by omega) | exact P0 _ _ (by omega) (by omega) | exact P1 _ _ (by omega) (by omega) | exact P2 _ _ (by omega) (by omega) | exact eN _ (by omega) | exact eLt _ (by omega))) (k := ?_)
            refine r_iadd hm rfl (hr := (by omega)) (k := ?_)
            refine r_iast (hm := hm) (hf := rfl) (h28 := (by omega)) (hs := (by first | assumption | exact I1 _ (by omega) | exact I2 _ (by omega) | exact I3 _ (by omega) | exact I4 _ (by omega))) (kk := ln) (hi := by omega) (hn := (by omega)) (k := ?_)
            refine r_aload_n hm rfl (k := ?_)
            refine r_getR (hm := hm) (hf := rfl) (hd := rfl) (hs := (by first | assumption | exact I1 _ (by omega) | exact I2 _ (by omega) | exact I3 _ (by omega) | exact I4 _ (by omega))) (hv := (by first | exact putI_eq | exact (putI_ne (by omega)).trans (by first | exact putI_eq | exact (putI_ne (by omega)).trans (by first | exact putI_eq | exact (putI_ne (by omega)).trans (by first | first | assumption | exact I0 _ (by omega) | exact J0 _ (by omega) | exact J1 _ (by omega) | exact J2 _ (by omega) | exact F1 _ (by omega) | exact F2 _ (by omega) | exact F4 _ (by omega) | exact P0 _ _ (by omega) (by omega) | exact P1 _ _ (by omega) (by omega) | exact P2 _ _ (by omega) (by omega) | exact eN _ (by omega) | exact eLt _ (by omega)) | first | assumption | exact I0 _ (by omega) | exact J0 _ (by omega) | exact J1 _ (by omega) | exact J2 _ (by omega) | exact F1 _ (by omega) | exact F2 _ (by omega) | exact F4 _ (by omega) | exact P0 _ _ (by omega) (by omega) | exact P1 _ _ (by omega) (by omega) | exact P2 _ _ (by omega) (by omega) | exact eN _ (by omega) | exact eLt _ (by omega)) | first | assumption | exact I0 _ (by omega) | exact J0 _ (by omega) | exact J1 _ (by omega) | exact J2 _ (by omega) | exact F1 _ (by omega) | exact F2 _ (by omega) | exact F4 _ (by omega) | exact P0 _ _ (by omega) (by omega) | exact P1 _ _ (by omega) (by omega) | exact P2 _ _ (by omega) (by omega) | exact eN _ (by omega) | exact eLt _ (by omega)) | first | assumption | exact I0 _ (by omega) | exact J0 _ (by omega) | exact J1 _ (by omega) | exact J2 _ (by omega) | exact F1 _ (by omega) | exact F2 _ (by omega) | exact F4 _ (by omega) | exact P0 _ _ (by omega) (by omega) | exact P1 _ _ (by omega) (by omega) | exact P2 _ _ (by omega) (by omega) | exact eN _ (by omega) | exact eLt _ (by omega))) (k := ?_)
            refine r_iload_n hm rfl (k := ?_)
            refine r_iload hm rfl (k := ?_)
            refine r_iadd hm rfl (hr := (by omega)) (k := ?_)
            refine r_iload hm rfl (k := ?_)
            refine r_iast (hm := hm) (hf := rfl) (h28 := (by omega)) (hs := (by first | assumption | exact I1 _ (by omega) | exact I2 _ (by omega) | exact I3 _ (by omega) | exact I4 _ (by omega))) (kk := fst x i + k) (hi := by omega) (hn := (by omega)) (k := ?_)
            refine r_iinc hm rfl (hr := (by omega)) (k := ?_)
            refine r_goto (t := 16) hm rfl (k := ?_)
            have eg : gp x i k = 0 := if_pos (Or.inl (by omega))
            have en : nz x i k = x.2.2.1 1 i k := if_pos (by omega)
            have e9 : lbN x lt i (k + 1) = (ln, fl + gp x i k + lt i k, upf nd ln (nd ln + nz x i k), upf lo k ln) := by
              rw [show lbN x lt i (k + 1) = lb1 x lt i k (lbN x lt i k) from rfl, hst]
              exact if_neg (fun z9 => by obtain ⟨z1, z2⟩ := z9; rw [eg] at z2; dsimp only at z2; omega)
            refine ih (d - 1) (by omega) (k + 1) _ ln (fl + (0 + lt i k)) (upf nd ln (nd ln + nz x i k)) (upf lo k ln) _ _ _ (by omega) (e9.trans (by rw [eg, Int.add_assoc])) (Sm.put (Sm.put S1 (by omega)) (by omega)) (fun l hl9 => ?_) (fun k2 hk2 => ?_)
            · simp (disch := omega) only [putI_fne, putI_feq, upf_ne, upf_eq]
              by_cases el : l = ln
              · subst el
                simp (disch := omega) only [putI_fne, putI_feq, upf_ne, upf_eq]
                rw [en]
              · simp (disch := omega) only [putI_fne, putI_feq, upf_ne, upf_eq]
                exact eN l (by omega)
            · simp (disch := omega) only [putI_fne, putI_feq, upf_ne, upf_eq]
              by_cases ek : k2 = k
              · subst ek
                simp (disch := omega) only [putI_fne, putI_feq, upf_ne, upf_eq]
                try rfl
              · simp (disch := omega) only [putI_fne, putI_feq, upf_ne, upf_eq]
                exact eO k2 (by omega)
        · refine r_iload hm rfl (k := ?_)
          refine r_iload hm rfl (k := ?_)
          refine r_iadd hm rfl (hr := (by omega)) (k := ?_)
          refine r_iload hm rfl (k := ?_)
          refine r_iadd hm rfl (hr := (by omega)) (k := ?_)
          refine r_iload hm rfl (k := ?_)
          refine r_icmp_le (t := 104) hm rfl rfl (fun c83 => ?_) (fun c83 => ?_)
          · refine r_iload hm rfl (k := ?_)
            refine r_iload hm rfl (k := ?_)
            refine r_iload hm rfl (k := ?_)
            refine r_iadd hm rfl (hr := (by omega)) (k := ?_)
            refine r_iadd hm rfl (hr := (by omega)) (k := ?_)
            refine r_istore hm rfl (k := ?_)
            refine r_iload hm rfl (k := ?_)
            refine r_if_eq (t := 136) hm rfl rfl (fun c116 => ?_) (fun c116 => ?_)
            · exfalso; omega
            · refine r_aload_n hm rfl (k := ?_)
              refine r_getR (hm := hm) (hf := rfl) (hd := rfl) (hs := (by first | assumption | exact I1 _ (by omega) | exact I2 _ (by omega) | exact I3 _ (by omega) | exact I4 _ (by omega))) (hv := (by first | exact putI_eq | exact (putI_ne (by omega)).trans (by first | exact putI_eq | exact (putI_ne (by omega)).trans (by first | exact putI_eq | exact (putI_ne (by omega)).trans (by first | first | assumption | exact I0 _ (by omega) | exact J0 _ (by omega) | exact J1 _ (by omega) | exact J2 _ (by omega) | exact F1 _ (by omega) | exact F2 _ (by omega) | exact F4 _ (by omega) | exact P0 _ _ (by omega) (by omega) | exact P1 _ _ (by omega) (by omega) | exact P2 _ _ (by omega) (by omega) | exact eN _ (by omega) | exact eLt _ (by omega)) | first | assumption | exact I0 _ (by omega) | exact J0 _ (by omega) | exact J1 _ (by omega) | exact J2 _ (by omega) | exact F1 _ (by omega) | exact F2 _ (by omega) | exact F4 _ (by omega) | exact P0 _ _ (by omega) (by omega) | exact P1 _ _ (by omega) (by omega) | exact P2 _ _ (by omega) (by omega) | exact eN _ (by omega) | exact eLt _ (by omega)) | first | assumption | exact I0 _ (by omega) | exact J0 _ (by omega) | exact J1 _ (by omega) | exact J2 _ (by omega) | exact F1 _ (by omega) | exact F2 _ (by omega) | exact F4 _ (by omega) | exact P0 _ _ (by omega) (by omega) | exact P1 _ _ (by omega) (by omega) | exact P2 _ _ (by omega) (by omega) | exact eN _ (by omega) | exact eLt _ (by omega)) | first | assumption | exact I0 _ (by omega) | exact J0 _ (by omega) | exact J1 _ (by omega) | exact J2 _ (by omega) | exact F1 _ (by omega) | exact F2 _ (by omega) | exact F4 _ (by omega) | exact P0 _ _ (by omega) (by omega) | exact P1 _ _ (by omega) (by omega) | exact P2 _ _ (by omega) (by omega) | exact eN _ (by omega) | exact eLt _ (by omega))) (k := ?_)
              refine r_iload hm rfl (k := ?_)
              refine r_dup2 hm rfl (k := ?_)
              refine r_iald (hm := hm) (hf := rfl) (hs := (by first | assumption | exact I1 _ (by omega) | exact I2 _ (by omega) | exact I3 _ (by omega) | exact I4 _ (by omega))) (kk := ln) (hi := by omega) (hn := (by omega)) (hv := (by first | exact putI_eq | exact (putI_ne (by omega)).trans (by first | exact putI_eq | exact (putI_ne (by omega)).trans (by first | exact putI_eq | exact (putI_ne (by omega)).trans (by first | first | assumption | exact I0 _ (by omega) | exact J0 _ (by omega) | exact J1 _ (by omega) | exact J2 _ (by omega) | exact F1 _ (by omega) | exact F2 _ (by omega) | exact F4 _ (by omega) | exact P0 _ _ (by omega) (by omega) | exact P1 _ _ (by omega) (by omega) | exact P2 _ _ (by omega) (by omega) | exact eN _ (by omega) | exact eLt _ (by omega)) | first | assumption | exact I0 _ (by omega) | exact J0 _ (by omega) | exact J1 _ (by omega) | exact J2 _ (by omega) | exact F1 _ (by omega) | exact F2 _ (by omega) | exact F4 _ (by omega) | exact P0 _ _ (by omega) (by omega) | exact P1 _ _ (by omega) (by omega) | exact P2 _ _ (by omega) (by omega) | exact eN _ (by omega) | exact eLt _ (by omega)) | first | assumption | exact I0 _ (by omega) | exact J0 _ (by omega) | exact J1 _ (by omega) | exact J2 _ (by omega) | exact F1 _ (by omega) | exact F2 _ (by omega) | exact F4 _ (by omega) | exact P0 _ _ (by omega) (by omega) | exact P1 _ _ (by omega) (by omega) | exact P2 _ _ (by omega) (by omega) | exact eN _ (by omega) | exact eLt _ (by omega)) | first | assumption | exact I0 _ (by omega) | exact J0 _ (by omega) | exact J1 _ (by omega) | exact J2 _ (by omega) | exact F1 _ (by omega) | exact F2 _ (by omega) | exact F4 _ (by omega) | exact P0 _ _ (by omega) (by omega) | exact P1 _ _ (by omega) (by omega) | exact P2 _ _ (by omega) (by omega) | exact eN _ (by omega) | exact eLt _ (by omega))) (k := ?_)
              refine r_aload_n hm rfl (k := ?_)
              refine r_getR (hm := hm) (hf := rfl) (hd := rfl) (hs := (by first | assumption | exact I1 _ (by omega) | exact I2 _ (by omega) | exact I3 _ (by omega) | exact I4 _ (by omega))) (hv := (by first | exact putI_eq | exact (putI_ne (by omega)).trans (by first | exact putI_eq | exact (putI_ne (by omega)).trans (by first | exact putI_eq | exact (putI_ne (by omega)).trans (by first | first | assumption | exact I0 _ (by omega) | exact J0 _ (by omega) | exact J1 _ (by omega) | exact J2 _ (by omega) | exact F1 _ (by omega) | exact F2 _ (by omega) | exact F4 _ (by omega) | exact P0 _ _ (by omega) (by omega) | exact P1 _ _ (by omega) (by omega) | exact P2 _ _ (by omega) (by omega) | exact eN _ (by omega) | exact eLt _ (by omega)) | first | assumption | exact I0 _ (by omega) | exact J0 _ (by omega) | exact J1 _ (by omega) | exact J2 _ (by omega) | exact F1 _ (by omega) | exact F2 _ (by omega) | exact F4 _ (by omega) | exact P0 _ _ (by omega) (by omega) | exact P1 _ _ (by omega) (by omega) | exact P2 _ _ (by omega) (by omega) | exact eN _ (by omega) | exact eLt _ (by omega)) | first | assumption | exact I0 _ (by omega) | exact J0 _ (by omega) | exact J1 _ (by omega) | exact J2 _ (by omega) | exact F1 _ (by omega) | exact F2 _ (by omega) | exact F4 _ (by omega) | exact P0 _ _ (by omega) (by omega) | exact P1 _ _ (by omega) (by omega) | exact P2 _ _ (by omega) (by omega) | exact eN _ (by omega) | exact eLt _ (by omega)) | first | assumption | exact I0 _ (by omega) | exact J0 _ (by omega) | exact J1 _ (by omega) | exact J2 _ (by omega) | exact F1 _ (by omega) | exact F2 _ (by omega) | exact F4 _ (by omega) | exact P0 _ _ (by omega) (by omega) | exact P1 _ _ (by omega) (by omega) | exact P2 _ _ (by omega) (by omega) | exact eN _ (by omega) | exact eLt _ (by omega))) (k := ?_)
              refine r_iload hm rfl (k := ?_)
              refine r_iald (hm := hm) (hf := rfl) (hs := (by first | assumption | exact I1 _ (by omega) | exact I2 _ (by omega) | exact I3 _ (by omega) | exact I4 _ (by omega))) (hi := rfl) (hn := (by omega)) (hv := (by first | exact putI_eq | exact (putI_ne (by omega)).trans (by first | exact putI_eq | exact (putI_ne (by omega)).trans (by first | exact putI_eq | exact (putI_ne (by omega)).trans (by first | first | assumption | exact I0 _ (by omega) | exact J0 _ (by omega) | exact J1 _ (by omega) | exact J2 _ (by omega) | exact F1 _ (by omega) | exact F2 _ (by omega) | exact F4 _ (by omega) | exact P0 _ _ (by omega) (by omega) | exact P1 _ _ (by omega) (by omega) | exact P2 _ _ (by omega) (by omega) | exact eN _ (by omega) | exact eLt _ (by omega)) | first | assumption | exact I0 _ (by omega) | exact J0 _ (by omega) | exact J1 _ (by omega) | exact J2 _ (by omega) | exact F1 _ (by omega) | exact F2 _ (by omega) | exact F4 _ (by omega) | exact P0 _ _ (by omega) (by omega) | exact P1 _ _ (by omega) (by omega) | exact P2 _ _ (by omega) (by omega) | exact eN _ (by omega) | exact eLt _ (by omega)) | first | assumption | exact I0 _ (by omega) | exact J0 _ (by omega) | exact J1 _ (by omega) | exact J2 _ (by omega) | exact F1 _ (by omega) | exact F2 _ (by omega) | exact F4 _ (by omega) | exact P0 _ _ (by omega) (by omega) | exact P1 _ _ (by omega) (by omega) | exact P2 _ _ (by omega) (by omega) | exact eN _ (by omega) | exact eLt _ (by omega)) | first | assumption | exact I0 _ (by omega) | exact J0 _ (by omega) | exact J1 _ (by omega) | exact J2 _ (by omega) | exact F1 _ (by omega) | exact F2 _ (by omega) | exact F4 _ (by omega) | exact P0 _ _ (by omega) (by omega) | exact P1 _ _ (by omega) (by omega) | exact P2 _ _ (by omega) (by omega) | exact eN _ (by omega) | exact eLt _ (by omega))) (k := ?_)
              refine r_iadd hm rfl (hr := (by omega)) (k := ?_)
              refine r_iast (hm := hm) (hf := rfl) (h28 := (by omega)) (hs := (by first | assumption | exact I1 _ (by omega) | exact I2 _ (by omega) | exact I3 _ (by omega) | exact I4 _ (by omega))) (kk := ln) (hi := by omega) (hn := (by omega)) (k := ?_)
              refine r_aload_n hm rfl (k := ?_)
              refine r_getR (hm := hm) (hf := rfl) (hd := rfl) (hs := (by first | assumption | exact I1 _ (by omega) | exact I2 _ (by omega) | exact I3 _ (by omega) | exact I4 _ (by omega))) (hv := (by first | exact putI_eq | exact (putI_ne (by omega)).trans (by first | exact putI_eq | exact (putI_ne (by omega)).trans (by first | exact putI_eq | exact (putI_ne (by omega)).trans (by first | first | assumption | exact I0 _ (by omega) | exact J0 _ (by omega) | exact J1 _ (by omega) | exact J2 _ (by omega) | exact F1 _ (by omega) | exact F2 _ (by omega) | exact F4 _ (by omega) | exact P0 _ _ (by omega) (by omega) | exact P1 _ _ (by omega) (by omega) | exact P2 _ _ (by omega) (by omega) | exact eN _ (by omega) | exact eLt _ (by omega)) | first | assumption | exact I0 _ (by omega) | exact J0 _ (by omega) | exact J1 _ (by omega) | exact J2 _ (by omega) | exact F1 _ (by omega) | exact F2 _ (by omega) | exact F4 _ (by omega) | exact P0 _ _ (by omega) (by omega) | exact P1 _ _ (by omega) (by omega) | exact P2 _ _ (by omega) (by omega) | exact eN _ (by omega) | exact eLt _ (by omega)) | first | assumption | exact I0 _ (by omega) | exact J0 _ (by omega) | exact J1 _ (by omega) | exact J2 _ (by omega) | exact F1 _ (by omega) | exact F2 _ (by omega) | exact F4 _ (by omega) | exact P0 _ _ (by omega) (by omega) | exact P1 _ _ (by omega) (by omega) | exact P2 _ _ (by omega) (by omega) | exact eN _ (by omega) | exact eLt _ (by omega)) | first | assumption | exact I0 _ (by omega) | exact J0 _ (by omega) | exact J1 _ (by omega) | exact J2 _ (by omega) | exact F1 _ (by omega) | exact F2 _ (by omega) | exact F4 _ (by omega) | exact P0 _ _ (by omega) (by omega) | exact P1 _ _ (by omega) (by omega) | exact P2 _ _ (by omega) (by omega) | exact eN _ (by omega) | exact eLt _ (by omega))) (k := ?_)
              refine r_iload_n hm rfl (k := ?_)
              refine r_iload hm rfl (k := ?_)
              refine r_iadd hm rfl (hr := (by omega)) (k := ?_)
              refine r_iload hm rfl (k := ?_)
              refine r_iast (hm := hm) (hf := rfl) (h28 := (by omega)) (hs := (by first | assumption | exact I1 _ (by omega) | exact I2 _ (by omega) | exact I3 _ (by omega) | exact I4 _ (by omega))) (kk := fst x i + k) (hi := by omega) (hn := (by omega)) (k := ?_)
              refine r_iinc hm rfl (hr := (by omega)) (k := ?_)
              refine r_goto (t := 16) hm rfl (k := ?_)
              have eg : gp x i k = 0 := if_pos (Or.inl (by omega))
              have en : nz x i k = x.2.2.1 1 i k := if_pos (by omega)
              have e9 : lbN x lt i (k + 1) = (ln, fl + gp x i k + lt i k, upf nd ln (nd ln + nz x i k), upf lo k ln) := by
                rw [show lbN x lt i (k + 1) = lb1 x lt i k (lbN x lt i k) from rfl, hst]
                exact if_neg (fun z9 => by obtain ⟨z1, z2⟩ := z9; rw [eg] at z2; dsimp only at z2; omega)
              refine ih (d - 1) (by omega) (k + 1) _ ln (fl + (0 + lt i k)) (upf nd ln (nd ln + nz x i k)) (upf lo k ln) _ _ _ (by omega) (e9.trans (by rw [eg, Int.add_assoc])) (Sm.put (Sm.put S1 (by omega)) (by omega)) (fun l hl9 => ?_) (fun k2 hk2 => ?_)
              · simp (disch := omega) only [putI_fne, putI_feq, upf_ne, upf_eq]
                by_cases el : l = ln
                · subst el
                  simp (disch := omega) only [putI_fne, putI_feq, upf_ne, upf_eq]
                  rw [en]
                · simp (disch := omega) only [putI_fne, putI_feq, upf_ne, upf_eq]
                  exact eN l (by omega)
              · simp (disch := omega) only [putI_fne, putI_feq, upf_ne, upf_eq]
                by_cases ek : k2 = k
                · subst ek
                  simp (disch := omega) only [putI_fne, putI_feq, upf_ne, upf_eq]
                  try rfl
                · simp (disch := omega) only [putI_fne, putI_feq, upf_ne, upf_eq]
                  exact eO k2 (by omega)
          · refine r_iinc hm rfl (hr := (by omega)) (k := ?_)
            refine r_aload_n hm rfl (k := ?_)
            refine r_getR (hm := hm) (hf := rfl) (hd := rfl) (hs := (by first | assumption | exact I1 _ (by omega) | exact I2 _ (by omega) | exact I3 _ (by omega) | exact I4 _ (by omega))) (hv := (by first | exact putI_eq | exact (putI_ne (by omega)).trans (by first | exact putI_eq | exact (putI_ne (by omega)).trans (by first | exact putI_eq | exact (putI_ne (by omega)).trans (by first | first | assumption | exact I0 _ (by omega) | exact J0 _ (by omega) | exact J1 _ (by omega) | exact J2 _ (by omega) | exact F1 _ (by omega) | exact F2 _ (by omega) | exact F4 _ (by omega) | exact P0 _ _ (by omega) (by omega) | exact P1 _ _ (by omega) (by omega) | exact P2 _ _ (by omega) (by omega) | exact eN _ (by omega) | exact eLt _ (by omega)) | first | assumption | exact I0 _ (by omega) | exact J0 _ (by omega) | exact J1 _ (by omega) | exact J2 _ (by omega) | exact F1 _ (by omega) | exact F2 _ (by omega) | exact F4 _ (by omega) | exact P0 _ _ (by omega) (by omega) | exact P1 _ _ (by omega) (by omega) | exact P2 _ _ (by omega) (by omega) | exact eN _ (by omega) | exact eLt _ (by omega)) | first | assumption | exact I0 _ (by omega) | exact J0 _ (by omega) | exact J1 _ (by omega) | exact J2 _ (by omega) | exact F1 _ (by omega) | exact F2 _ (by omega) | exact F4 _ (by omega) | exact P0 _ _ (by omega) (by omega) | exact P1 _ _ (by omega) (by omega) | exact P2 _ _ (by omega) (by omega) | exact eN _ (by omega) | exact eLt _ (by omega)) | first | assumption | exact I0 _ (by omega) | exact J0 _ (by omega) | exact J1 _ (by omega) | exact J2 _ (by omega) | exact F1 _ (by omega) | exact F2 _ (by omega) | exact F4 _ (by omega) | exact P0 _ _ (by omega) (by omega) | exact P1 _ _ (by omega) (by omega) | exact P2 _ _ (by omega) (by omega) | exact eN _ (by omega) | exact eLt _ (by omega))) (k := ?_)
            refine r_iload hm rfl (k := ?_)
            refine r_iconst hm rfl (k := ?_)
            refine r_iast (hm := hm) (hf := rfl) (h28 := (by omega)) (hs := (by first | assumption | exact I1 _ (by omega) | exact I2 _ (by omega) | exact I3 _ (by omega) | exact I4 _ (by omega))) (kk := ln + 1) (hi := by omega) (hn := (by omega)) (k := ?_)
            refine r_iload hm rfl (k := ?_)
            refine r_istore hm rfl (k := ?_)
            refine r_goto (t := 114) hm rfl (k := ?_)
            refine r_iload hm rfl (k := ?_)
            refine r_if_eq (t := 136) hm rfl rfl (fun c116 => ?_) (fun c116 => ?_)
            · exfalso; omega
            · refine r_aload_n hm rfl (k := ?_)
              refine r_getR (hm := hm) (hf := rfl) (hd := rfl) (hs := (by first | assumption | exact I1 _ (by omega) | exact I2 _ (by omega) | exact I3 _ (by omega) | exact I4 _ (by omega))) (hv := (by first | exact putI_eq | exact (putI_ne (by omega)).trans (by first | exact putI_eq | exact (putI_ne (by omega)).trans (by first | exact putI_eq | exact (putI_ne (by omega)).trans (by first | first | assumption | exact I0 _ (by omega) | exact J0 _ (by omega) | exact J1 _ (by omega) | exact J2 _ (by omega) | exact F1 _ (by omega) | exact F2 _ (by omega) | exact F4 _ (by omega) | exact P0 _ _ (by omega) (by omega) | exact P1 _ _ (by omega) (by omega) | exact P2 _ _ (by omega) (by omega) | exact eN _ (by omega) | exact eLt _ (by omega)) | first | assumption | exact I0 _ (by omega) | exact J0 _ (by omega) | exact J1 _ (by omega) | exact J2 _ (by omega) | exact F1 _ (by omega) | exact F2 _ (by omega) | exact F4 _ (by omega) | exact P0 _ _ (by omega) (by omega) | exact P1 _ _ (by omega) (by omega) | exact P2 _ _ (by omega) (by omega) | exact eN _ (by omega) | exact eLt _ (by omega)) | first | assumption | exact I0 _ (by omega) | exact J0 _ (by omega) | exact J1 _ (by omega) | exact J2 _ (by omega) | exact F1 _ (by omega) | exact F2 _ (by omega) | exact F4 _ (by omega) | exact P0 _ _ (by omega) (by omega) | exact P1 _ _ (by omega) (by omega) | exact P2 _ _ (by omega) (by omega) | exact eN _ (by omega) | exact eLt _ (by omega)) | first | assumption | exact I0 _ (by omega) | exact J0 _ (by omega) | exact J1 _ (by omega) | exact J2 _ (by omega) | exact F1 _ (by omega) | exact F2 _ (by omega) | exact F4 _ (by omega) | exact P0 _ _ (by omega) (by omega) | exact P1 _ _ (by omega) (by omega) | exact P2 _ _ (by omega) (by omega) | exact eN _ (by omega) | exact eLt _ (by omega))) (k := ?_)
              refine r_iload hm rfl (k := ?_)
              refine r_dup2 hm rfl (k := ?_)
              refine r_iald (hm := hm) (hf := rfl) (hs := (by first | assumption | exact I1 _ (by omega) | exact I2 _ (by omega) | exact I3 _ (by omega) | exact I4 _ (by omega))) (kk := ln + 1) (hi := by omega) (hn := (by omega)) (hv := (by first | exact putI_eq | exact (putI_ne (by omega)).trans (by first | exact putI_eq | exact (putI_ne (by omega)).trans (by first | exact putI_eq | exact (putI_ne (by omega)).trans (by first | first | assumption | exact I0 _ (by omega) | exact J0 _ (by omega) | exact J1 _ (by omega) | exact J2 _ (by omega) | exact F1 _ (by omega) | exact F2 _ (by omega) | exact F4 _ (by omega) | exact P0 _ _ (by omega) (by omega) | exact P1 _ _ (by omega) (by omega) | exact P2 _ _ (by omega) (by omega) | exact eN _ (by omega) | exact eLt _ (by omega)) | first | assumption | exact I0 _ (by omega) | exact J0 _ (by omega) | exact J1 _ (by omega) | exact J2 _ (by omega) | exact F1 _ (by omega) | exact F2 _ (by omega) | exact F4 _ (by omega) | exact P0 _ _ (by omega) (by omega) | exact P1 _ _ (by omega) (by omega) | exact P2 _ _ (by omega) (by omega) | exact eN _ (by omega) | exact eLt _ (by omega)) | first | assumption | exact I0 _ (by omega) | exact J0 _ (by omega) | exact J1 _ (by omega) | exact J2 _ (by omega) | exact F1 _ (by omega) | exact F2 _ (by omega) | exact F4 _ (by omega) | exact P0 _ _ (by omega) (by omega) | exact P1 _ _ (by omega) (by omega) | exact P2 _ _ (by omega) (by omega) | exact eN _ (by omega) | exact eLt _ (by omega)) | first | assumption | exact I0 _ (by omega) | exact J0 _ (by omega) | exact J1 _ (by omega) | exact J2 _ (by omega) | exact F1 _ (by omega) | exact F2 _ (by omega) | exact F4 _ (by omega) | exact P0 _ _ (by omega) (by omega) | exact P1 _ _ (by omega) (by omega) | exact P2 _ _ (by omega) (by omega) | exact eN _ (by omega) | exact eLt _ (by omega))) (k := ?_)
              refine r_aload_n hm rfl (k := ?_)
              refine r_getR (hm := hm) (hf := rfl) (hd := rfl) (hs := (by first | assumption | exact I1 _ (by omega) | exact I2 _ (by omega) | exact I3 _ (by omega) | exact I4 _ (by omega))) (hv := (by first | exact putI_eq | exact (putI_ne (by omega)).trans (by first | exact putI_eq | exact (putI_ne (by omega)).trans (by first | exact putI_eq | exact (putI_ne (by omega)).trans (by first | first | assumption | exact I0 _ (by omega) | exact J0 _ (by omega) | exact J1 _ (by omega) | exact J2 _ (by omega) | exact F1 _ (by omega) | exact F2 _ (by omega) | exact F4 _ (by omega) | exact P0 _ _ (by omega) (by omega) | exact P1 _ _ (by omega) (by omega) | exact P2 _ _ (by omega) (by omega) | exact eN _ (by omega) | exact eLt _ (by omega)) | first | assumption | exact I0 _ (by omega) | exact J0 _ (by omega) | exact J1 _ (by omega) | exact J2 _ (by omega) | exact F1 _ (by omega) | exact F2 _ (by omega) | exact F4 _ (by omega) | exact P0 _ _ (by omega) (by omega) | exact P1 _ _ (by omega) (by omega) | exact P2 _ _ (by omega) (by omega) | exact eN _ (by omega) | exact eLt _ (by omega)) | first | assumption | exact I0 _ (by omega) | exact J0 _ (by omega) | exact J1 _ (by omega) | exact J2 _ (by omega) | exact F1 _ (by omega) | exact F2 _ (by omega) | exact F4 _ (by omega) | exact P0 _ _ (by omega) (by omega) | exact P1 _ _ (by omega) (by omega) | exact P2 _ _ (by omega) (by omega) | exact eN _ (by omega) | exact eLt _ (by omega)) | first | assumption | exact I0 _ (by omega) | exact J0 _ (by omega) | exact J1 _ (by omega) | exact J2 _ (by omega) | exact F1 _ (by omega) | exact F2 _ (by omega) | exact F4 _ (by omega) | exact P0 _ _ (by omega) (by omega) | exact P1 _ _ (by omega) (by omega) | exact P2 _ _ (by omega) (by omega) | exact eN _ (by omega) | exact eLt _ (by omega))) (k := ?_)
              refine r_iload hm rfl (k := ?_)
              refine r_iald (hm := hm) (hf := rfl) (hs := (by first | assumption | exact I1 _ (by omega) | exact I2 _ (by omega) | exact I3 _ (by omega) | exact I4 _ (by omega))) (hi := rfl) (hn := (by omega)) (hv := (by first | exact putI_eq | exact (putI_ne (by omega)).trans (by first | exact putI_eq | exact (putI_ne (by omega)).trans (by first | exact putI_eq | exact (putI_ne (by omega)).trans (by first | first | assumption | exact I0 _ (by omega) | exact J0 _ (by omega) | exact J1 _ (by omega) | exact J2 _ (by omega) | exact F1 _ (by omega) | exact F2 _ (by omega) | exact F4 _ (by omega) | exact P0 _ _ (by omega) (by omega) | exact P1 _ _ (by omega) (by omega) | exact P2 _ _ (by omega) (by omega) | exact eN _ (by omega) | exact eLt _ (by omega)) | first | assumption | exact I0 _ (by omega) | exact J0 _ (by omega) | exact J1 _ (by omega) | exact J2 _ (by omega) | exact F1 _ (by omega) | exact F2 _ (by omega) | exact F4 _ (by omega) | exact P0 _ _ (by omega) (by omega) | exact P1 _ _ (by omega) (by omega) | exact P2 _ _ (by omega) (by omega) | exact eN _ (by omega) | exact eLt _ (by omega)) | first | assumption | exact I0 _ (by omega) | exact J0 _ (by omega) | exact J1 _ (by omega) | exact J2 _ (by omega) | exact F1 _ (by omega) | exact F2 _ (by omega) | exact F4 _ (by omega) | exact P0 _ _ (by omega) (by omega) | exact P1 _ _ (by omega) (by omega) | exact P2 _ _ (by omega) (by omega) | exact eN _ (by omega) | exact eLt _ (by omega)) | first | assumption | exact I0 _ (by omega) | exact J0 _ (by omega) | exact J1 _ (by omega) | exact J2 _ (by omega) | exact F1 _ (by omega) | exact F2 _ (by omega) | exact F4 _ (by omega) | exact P0 _ _ (by omega) (by omega) | exact P1 _ _ (by omega) (by omega) | exact P2 _ _ (by omega) (by omega) | exact eN _ (by omega) | exact eLt _ (by omega))) (k := ?_)
              refine r_iadd hm rfl (hr := (by omega)) (k := ?_)
              refine r_iast (hm := hm) (hf := rfl) (h28 := (by omega)) (hs := (by first | assumption | exact I1 _ (by omega) | exact I2 _ (by omega) | exact I3 _ (by omega) | exact I4 _ (by omega))) (kk := ln + 1) (hi := by omega) (hn := (by omega)) (k := ?_)
              refine r_aload_n hm rfl (k := ?_)
              refine r_getR (hm := hm) (hf := rfl) (hd := rfl) (hs := (by first | assumption | exact I1 _ (by omega) | exact I2 _ (by omega) | exact I3 _ (by omega) | exact I4 _ (by omega))) (hv := (by first | exact putI_eq | exact (putI_ne (by omega)).trans (by first | exact putI_eq | exact (putI_ne (by omega)).trans (by first | exact putI_eq | exact (putI_ne (by omega)).trans (by first | first | assumption | exact I0 _ (by omega) | exact J0 _ (by omega) | exact J1 _ (by omega) | exact J2 _ (by omega) | exact F1 _ (by omega) | exact F2 _ (by omega) | exact F4 _ (by omega) | exact P0 _ _ (by omega) (by omega) | exact P1 _ _ (by omega) (by omega) | exact P2 _ _ (by omega) (by omega) | exact eN _ (by omega) | exact eLt _ (by omega)) | first | assumption | exact I0 _ (by omega) | exact J0 _ (by omega) | exact J1 _ (by omega) | exact J2 _ (by omega) | exact F1 _ (by omega) | exact F2 _ (by omega) | exact F4 _ (by omega) | exact P0 _ _ (by omega) (by omega) | exact P1 _ _ (by omega) (by omega) | exact P2 _ _ (by omega) (by omega) | exact eN _ (by omega) | exact eLt _ (by omega)) | first | assumption | exact I0 _ (by omega) | exact J0 _ (by omega) | exact J1 _ (by omega) | exact J2 _ (by omega) | exact F1 _ (by omega) | exact F2 _ (by omega) | exact F4 _ (by omega) | exact P0 _ _ (by omega) (by omega) | exact P1 _ _ (by omega) (by omega) | exact P2 _ _ (by omega) (by omega) | exact eN _ (by omega) | exact eLt _ (by omega)) | first | assumption | exact I0 _ (by omega) | exact J0 _ (by omega) | exact J1 _ (by omega) | exact J2 _ (by omega) | exact F1 _ (by omega) | exact F2 _ (by omega) | exact F4 _ (by omega) | exact P0 _ _ (by omega) (by omega) | exact P1 _ _ (by omega) (by omega) | exact P2 _ _ (by omega) (by omega) | exact eN _ (by omega) | exact eLt _ (by omega))) (k := ?_)
              refine r_iload_n hm rfl (k := ?_)
              refine r_iload hm rfl (k := ?_)
              refine r_iadd hm rfl (hr := (by omega)) (k := ?_)
              refine r_iload hm rfl (k := ?_)
              refine r_iast (hm := hm) (hf := rfl) (h28 := (by omega)) (hs := (by first | assumption | exact I1 _ (by omega) | exact I2 _ (by omega) | exact I3 _ (by omega) | exact I4 _ (by omega))) (kk := fst x i + k) (hi := by omega) (hn := (by omega)) (k := ?_)
              refine r_iinc hm rfl (hr := (by omega)) (k := ?_)
              refine r_goto (t := 16) hm rfl (k := ?_)
              have eg : gp x i k = 0 := if_pos (Or.inl (by omega))
              have en : nz x i k = x.2.2.1 1 i k := if_pos (by omega)
              have e9 : lbN x lt i (k + 1) = (ln + 1, lt i k, upf nd (ln + 1) (nd (ln + 1) + nz x i k), upf lo k (ln + 1)) := by
                rw [show lbN x lt i (k + 1) = lb1 x lt i k (lbN x lt i k) from rfl, hst]
                exact if_pos ⟨by omega, by rw [eg]; dsimp only; omega⟩
              refine ih (d - 1) (by omega) (k + 1) _ (ln + 1) (lt i k) (upf nd (ln + 1) (nd (ln + 1) + nz x i k)) (upf lo k (ln + 1)) _ _ _ (by omega) e9 (Sm.put (Sm.put (Sm.put S1 (by omega)) (by omega)) (by omega)) (fun l hl9 => ?_) (fun k2 hk2 => ?_)
              · simp (disch := omega) only [putI_fne, putI_feq, upf_ne, upf_eq]
                by_cases el : l = (ln + 1)
                · subst el
                  simp (disch := omega) only [putI_fne, putI_feq, upf_ne, upf_eq]
                  rw [en, bl2]
                · simp (disch := omega) only [putI_fne, putI_feq, upf_ne, upf_eq]
                  exact eN l (by omega)
              · simp (disch := omega) only [putI_fne, putI_feq, upf_ne, upf_eq]
                by_cases ek : k2 = k
                · subst ek
                  simp (disch := omega) only [putI_fne, putI_feq, upf_ne, upf_eq]
                  try rfl
                · simp (disch := omega) only [putI_fne, putI_feq, upf_ne, upf_eq]
                  exact eO k2 (by omega)
      · exfalso; omega
set_option maxRecDepth 8000 in
theorem m_findLines {L : Nat} {h : Hp} {c : Nat} {x : Tx} (g : GG L h) (hc : h.2.1 1085 12 = (c : Int)) (hc3 : c ≤ 3) (hR : RepM h c x) {lt : LT} (hok : okTx x) (hl : okLt x lt) {i r : Nat} (hi : i < x.1) (hr : r ≤ 11) (hLt : ∀ k, k < pcs x i → h.2.1 1103 (1200 * r + 20 * i + k) = lt i k) : RN 192 0 [some (.inr (.inr (some 1085))), some (.inl (i : Int)), some (.inl (r : Int)), none, none, none, none, none, none, none] [] h 0 0 (fun v h2 => Sm (fun a k => a = 1113 ∨ (a = 1104 ∧ 20 * i ≤ k ∧ k < 20 * i + 20)) h h2 ∧ (∀ l, l < nli x lt i → h2.2.1 1113 l = ndi x lt i l) ∧ (∀ k, k < pcs x i → h2.2.1 1104 (20 * i + k) = (loi x lt i k : Int)) ∧ v = some (.inl (nli x lt i : Int))) := by
  have hm : mrec 192 = some nM192 := rfl
  have n60 := hok.1
  obtain ⟨ep, ep2⟩ := pcs_eq hok hi
  have hst0 := hok.2.2.2.2
  unfold okStl at hst0
  refine r_iconst hm rfl (k := ?_)
  refine r_istore_n hm rfl (k := ?_)
  refine r_iconst hm rfl (k := ?_)
  refine r_istore hm rfl (k := ?_)
  refine r_iconst hm rfl (k := ?_)
  refine r_istore hm rfl (k := ?_)
  suffices LP : ∀ (d k : Nat) (h1 : Hp) (m ln : Nat) (fl : Int) (nd : Nat → Int) (lo : Nat → Nat) (z6 z7 z8 z9 : Option Vl), k + d = pcs x i → lbN x lt i k = (ln, fl, nd, lo) → ((k = 0 ∧ m = 0) ∨ (0 < k ∧ m = ln + 1)) → Sm (fun a k => a = 1113 ∨ (a = 1104 ∧ 20 * i ≤ k ∧ k < 20 * i + 20)) h h1 → (∀ l, l < m → h1.2.1 1113 l = nd l) → (∀ k2, k2 < k → h1.2.1 1104 (20 * i + k2) = (lo k2 : Int)) → RN 192 8 [some (.inr (.inr (some 1085))), some (.inl (i : Int)), some (.inl (r : Int)), some (.inl (m : Int)), some (.inl fl), some (.inl (k : Int)), z6, z7, z8, z9] [] h1 0 0 (fun v h2 => Sm (fun a k => a = 1113 ∨ (a = 1104 ∧ 20 * i ≤ k ∧ k < 20 * i + 20)) h h2 ∧ (∀ l, l < nli x lt i → h2.2.1 1113 l = ndi x lt i l) ∧ (∀ k, k < pcs x i → h2.2.1 1104 (20 * i + k) = (loi x lt i k : Int)) ∧ v = some (.inl (nli x lt i : Int))) from LP (pcs x i) 0 _ 0 0 0 (fun _ => 1) (fun _ => 0) _ _ _ _ (by omega) rfl (Or.inl ⟨rfl, rfl⟩) Sm.refl (fun l hl9 => by omega) (fun k2 hk2 => by omega)
  refine fun d => Nat.strongRecOn d (fun d ih => ?_)
  intro k h1 m ln fl nd lo z6 z7 z8 z9 hd hst hmk S1 eN eO
  have g1 := S1.gg g
  have hc1 : h1.2.1 1085 12 = (c : Int) := (S1.2.2 _ _ (by omega)).trans hc
  have hR1 := S1.repM (fun a k q9 => by omega) hR
  obtain ⟨M0, M1, M2, M3, M4, Q0, Q1, Q2, S0, N0, N1⟩ := hR1.use
  have eLt : ∀ k, k < pcs x i → h1.2.1 1103 (1200 * r + 20 * i + k) = lt i k := fun k hk => (S1.2.2 _ _ (by omega)).trans (hLt k hk)
  obtain ⟨b1, b2, b3, b4, b5, b6⟩ := lbN_ok hok hl hi k (by omega)
  rw [hst] at b1 b2 b3 b4 b5 b6
  dsimp only at b1 b2 b3 b4 b5 b6
  refine r_iload hm rfl (k := ?_)
  refine r_aload_n hm rfl (k := ?_)
  refine r_iload_n hm rfl (k := ?_)
  refine r_callv (j2 := 181) hm rfl rfl rfl rfl rfl rfl (by first | assumption | exact (g1.1 _).trans rfl) (Nat.le_of_ble_eq_true rfl) (Nat.le_of_ble_eq_true rfl) rfl ⟨Nat.le_of_ble_eq_true rfl, Nat.le_of_ble_eq_true rfl, Nat.le_of_ble_eq_true rfl, Nat.le_of_ble_eq_true rfl, Nat.le_of_ble_eq_true rfl⟩ rfl (m_piecesOf g1 hc1 hc3 hR1 (i := i) (by omega)) (fun v9 h9 p9 => ?_)
  obtain ⟨e1, e2⟩ := p9
  subst e2
  replace e1 := e1.symm
  subst e1
  change RN 192 15 _ _ _ 0 0 _
  dsimp only [Option.toList, List.cons_append, List.nil_append]
  refine r_icmp_ge (t := 183) hm rfl rfl (fun c15 => ?_) (fun c15 => ?_)
  · refine r_iload_n hm rfl (k := ?_)
    refine r_ireturn hm rfl rfl (by rfl) (Nat.le_of_ble_eq_true rfl) (Nat.le_of_ble_eq_true rfl) ?_
    have ek : k = pcs x i := by omega
    subst ek
    unfold nli ndi loi
    rw [hst]
    dsimp only
    by_cases k0 : pcs x i = 0
    · rw [if_pos k0]
      exact ⟨S1, fun l hl9 => absurd hl9 (Nat.not_lt_zero _), eO, by rw [show m = 0 by omega]⟩
    · rw [if_neg k0]
      exact ⟨S1, fun l hl9 => eN l (by omega), eO, by rw [show m = ln + 1 by omega]⟩
  · have hw := hl i k hi (by omega)
    have hz := hok.2.2.1 i k hi (by omega)
    unfold okPc at hz
    have bl := b3 ln
    have bl1 := b3 (ln + 1)
    have bl2 := b4 (ln + 1) (by omega)
    have bm := b3 m
    have bm1 := b3 (m - 1)
    refine r_aload_n hm rfl (k := ?_)
    refine r_getR (hm := hm) (hf := rfl) (hd := rfl) (hs := (by first | assumption | exact (g1.1 _).trans rfl)) (hv := (by first | exact putI_eq | exact (putI_ne (by omega)).trans (by first | exact putI_eq | exact (putI_ne (by omega)).trans (by first | exact putI_eq | exact (putI_ne (by omega)).trans (by first | first | assumption | exact g1.2 _ _ _ rfl | exact eLt _ (by omega) | exact eN _ (by omega) | exact Q0 _ _ (by omega) (by omega) | exact Q1 _ _ (by omega) (by omega)) | first | assumption | exact g1.2 _ _ _ rfl | exact eLt _ (by omega) | exact eN _ (by omega) | exact Q0 _ _ (by omega) (by omega) | exact Q1 _ _ (by omega) (by omega)) | first | assumption | exact g1.2 _ _ _ rfl | exact eLt _ (by omega) | exact eN _ (by omega) | exact Q0 _ _ (by omega) (by omega) | exact Q1 _ _ (by omega) (by omega)) | first | assumption | exact g1.2 _ _ _ rfl | exact eLt _ (by omega) | exact eN _ (by omega) | exact Q0 _ _ (by omega) (by omega) | exact Q1 _ _ (by omega) (by omega))) (k := ?_)
    refine r_sipush hm rfl (k := ?_)
    refine r_iload_n hm rfl (k := ?_)
    refine r_imul hm rfl (hr := (by omega)) (k := ?_)
    refine r_bipush hm rfl (k := ?_)
    refine r_iload_n hm rfl (k := ?_)
    refine r_imul hm rfl (hr := (by omega)) (k := ?_)
    refine r_iadd hm rfl (hr := (by omega)) (k := ?_)
    refine r_iload hm rfl (k := ?_)
    refine r_iadd hm rfl (hr := (by omega)) (k := ?_)
    refine r_iald (hm := hm) (hf := rfl) (hs := (by first | assumption | exact (g1.1 _).trans rfl)) (kk := 1200 * r + 20 * i + k) (hi := by omega) (hn := (by omega)) (hv := (by first | exact putI_eq | exact (putI_ne (by omega)).trans (by first | exact putI_eq | exact (putI_ne (by omega)).trans (by first | exact putI_eq | exact (putI_ne (by omega)).trans (by first | first | assumption | exact g1.2 _ _ _ rfl | exact eLt _ (by omega) | exact eN _ (by omega) | exact Q0 _ _ (by omega) (by omega) | exact Q1 _ _ (by omega) (by omega)) | first | assumption | exact g1.2 _ _ _ rfl | exact eLt _ (by omega) | exact eN _ (by omega) | exact Q0 _ _ (by omega) (by omega) | exact Q1 _ _ (by omega) (by omega)) | first | assumption | exact g1.2 _ _ _ rfl | exact eLt _ (by omega) | exact eN _ (by omega) | exact Q0 _ _ (by omega) (by omega) | exact Q1 _ _ (by omega) (by omega)) | first | assumption | exact g1.2 _ _ _ rfl | exact eLt _ (by omega) | exact eN _ (by omega) | exact Q0 _ _ (by omega) (by omega) | exact Q1 _ _ (by omega) (by omega))) (k := ?_)
    refine r_istore hm rfl (k := ?_)
    refine r_aload_n hm rfl (k := ?_)
    refine r_getR (hm := hm) (hf := rfl) (hd := rfl) (hs := (by first | assumption | exact (g1.1 _).trans rfl)) (hv := (by first | exact putI_eq | exact (putI_ne (by omega)).trans (by first | exact putI_eq | exact (putI_ne (by omega)).trans (by first | exact putI_eq | exact (putI_ne (by omega)).trans (by first | first | assumption | exact g1.2 _ _ _ rfl | exact eLt _ (by omega) | exact eN _ (by omega) | exact Q0 _ _ (by omega) (by omega) | exact Q1 _ _ (by omega) (by omega)) | first | assumption | exact g1.2 _ _ _ rfl | exact eLt _ (by omega) | exact eN _ (by omega) | exact Q0 _ _ (by omega) (by omega) | exact Q1 _ _ (by omega) (by omega)) | first | assumption | exact g1.2 _ _ _ rfl | exact eLt _ (by omega) | exact eN _ (by omega) | exact Q0 _ _ (by omega) (by omega) | exact Q1 _ _ (by omega) (by omega)) | first | assumption | exact g1.2 _ _ _ rfl | exact eLt _ (by omega) | exact eN _ (by omega) | exact Q0 _ _ (by omega) (by omega) | exact Q1 _ _ (by omega) (by omega))) (k := ?_)
    refine r_aload_n hm rfl (k := ?_)
    refine r_iload_n hm rfl (k := ?_)
    refine r_iload hm rfl (k := ?_)
    refine r_callv (j2 := 186) hm rfl rfl rfl rfl rfl rfl (by first | assumption | exact (g1.1 _).trans rfl) (Nat.le_of_ble_eq_true rfl) (Nat.le_of_ble_eq_true rfl) rfl ⟨Nat.le_of_ble_eq_true rfl, Nat.le_of_ble_eq_true rfl, Nat.le_of_ble_eq_true rfl, Nat.le_of_ble_eq_true rfl, Nat.le_of_ble_eq_true rfl⟩ rfl (m_place g1 hc1 hc3 hR1 (i := i) (k := k) (by omega) (by omega)) (fun v9 h9 p9 => ?_)
    obtain ⟨e1, e2⟩ := p9
    subst e2
    replace e1 := e1.symm
    subst e1
    change RN 192 49 _ _ _ 0 0 _
    dsimp only [Option.toList, List.cons_append, List.nil_append]
    refine r_iald (hm := hm) (hf := rfl) (hs := (by first | assumption | exact (g1.1 _).trans rfl)) (hi := rfl) (hn := (by omega)) (hv := (by first | exact putI_eq | exact (putI_ne (by omega)).trans (by first | exact putI_eq | exact (putI_ne (by omega)).trans (by first | exact putI_eq | exact (putI_ne (by omega)).trans (by first | first | assumption | exact g1.2 _ _ _ rfl | exact eLt _ (by omega) | exact eN _ (by omega) | exact Q0 _ _ (by omega) (by omega) | exact Q1 _ _ (by omega) (by omega)) | first | assumption | exact g1.2 _ _ _ rfl | exact eLt _ (by omega) | exact eN _ (by omega) | exact Q0 _ _ (by omega) (by omega) | exact Q1 _ _ (by omega) (by omega)) | first | assumption | exact g1.2 _ _ _ rfl | exact eLt _ (by omega) | exact eN _ (by omega) | exact Q0 _ _ (by omega) (by omega) | exact Q1 _ _ (by omega) (by omega)) | first | assumption | exact g1.2 _ _ _ rfl | exact eLt _ (by omega) | exact eN _ (by omega) | exact Q0 _ _ (by omega) (by omega) | exact Q1 _ _ (by omega) (by omega))) (k := ?_)
    refine r_iconst hm rfl (k := ?_)
    refine r_icmp_ne (t := 58) hm rfl rfl (fun c51 => ?_) (fun c51 => ?_)
    · refine r_iconst hm rfl (k := ?_)
      refine r_istore hm rfl (k := ?_)
      refine r_iload hm rfl (k := ?_)
      refine r_iload hm rfl (k := ?_)
      refine r_if_eq (t := 72) hm rfl rfl (fun c65 => ?_) (fun c65 => ?_)
      · refine r_iconst hm rfl (k := ?_)
        refine r_iadd hm rfl (hr := (by omega)) (k := ?_)
        refine r_iload hm rfl (k := ?_)
        refine r_iadd hm rfl (hr := (by omega)) (k := ?_)
        refine r_istore hm rfl (k := ?_)
        refine r_iload hm rfl (k := ?_)
        refine r_if_eq (t := 94) hm rfl rfl (fun c81 => ?_) (fun c81 => ?_)
        · refine r_iconst hm rfl (k := ?_)
          refine r_goto (t := 99) hm rfl (k := ?_)
          refine r_istore hm rfl (k := ?_)
          refine r_iload hm rfl (k := ?_)
          refine r_if_eq (t := 116) hm rfl rfl (fun c103 => ?_) (fun c103 => ?_)
          · exfalso; omega
          · refine r_aload_n hm rfl (k := ?_)
            refine r_getR (hm := hm) (hf := rfl) (hd := rfl) (hs := (by first | assumption | exact (g1.1 _).trans rfl)) (hv := (by first | exact putI_eq | exact (putI_ne (by omega)).trans (by first | exact putI_eq | exact (putI_ne (by omega)).trans (by first | exact putI_eq | exact (putI_ne (by omega)).trans (by first | first | assumption | exact g1.2 _ _ _ rfl | exact eLt _ (by omega) | exact eN _ (by omega) | exact Q0 _ _ (by omega) (by omega) | exact Q1 _ _ (by omega) (by omega)) | first | assumption | exact g1.2 _ _ _ rfl | exact eLt _ (by omega) | exact eN _ (by omega) | exact Q0 _ _ (by omega) (by omega) | exact Q1 _ _ (by omega) (by omega)) | first | assumption | exact g1.2 _ _ _ rfl | exact eLt _ (by omega) | exact eN _ (by omega) | exact Q0 _ _ (by omega) (by omega) | exact Q1 _ _ (by omega) (by omega)) | first | assumption | exact g1.2 _ _ _ rfl | exact eLt _ (by omega) | exact eN _ (by omega) | exact Q0 _ _ (by omega) (by omega) | exact Q1 _ _ (by omega) (by omega))) (k := ?_)
            refine r_iload_n hm rfl (k := ?_)
            refine r_iconst hm rfl (k := ?_)
            refine r_iast (hm := hm) (hf := rfl) (h28 := (by omega)) (hs := (by first | assumption | exact (g1.1 _).trans rfl)) (kk := m) (hi := by omega) (hn := (by omega)) (k := ?_)
            refine r_iinc hm rfl (hr := (by omega)) (k := ?_)
            refine RN.abs (fun h1 => Sm (fun a k => a = 1113 ∨ (a = 1104 ∧ 20 * i ≤ k ∧ k < 20 * i + 20)) h h1 ∧ (∀ l, l < m + 1 → h1.2.1 1113 l = nd l) ∧ (∀ k2, k2 < k → h1.2.1 1104 (20 * i + k2) = (lo k2 : Int))) ⟨Sm.put S1 (by omega), fun l hl9 => ?_, fun k2 hk2 => by rw [putI_ne (by omega)]; exact eO k2 hk2⟩ (fun h1 H9 => ?_)
            · by_cases el : l = m
              · subst el
                rw [putI_eq]
                have := hst.symm.trans (show lbN x lt i k = lbN x lt i 0 by rw [show k = 0 by omega])
                have e3 : nd = fun _ => 1 := (congrArg (fun z : LB => z.2.2.1) this)
                rw [e3]
              · rw [putI_ne (by omega)]
                exact eN l (by omega)
            obtain ⟨S1, eN, eO⟩ := H9
            have g1 := S1.gg g
            have hc1 : h1.2.1 1085 12 = (c : Int) := (S1.2.2 _ _ (by omega)).trans hc
            have hR1 := S1.repM (fun a k q9 => by omega) hR
            obtain ⟨M0, M1, M2, M3, M4, Q0, Q1, Q2, S0, N0, N1⟩ := hR1.use
            have eLt : ∀ k, k < pcs x i → h1.2.1 1103 (1200 * r + 20 * i + k) = lt i k := fun k hk => (S1.2.2 _ _ (by omega)).trans (hLt k hk)
            refine r_iload hm rfl (k := ?_)
            refine r_if_eq (t := 126) hm rfl rfl (fun c118 => ?_) (fun c118 => ?_)
            · exfalso; omega
            · refine r_iload hm rfl (k := ?_)
              refine r_goto (t := 128) hm rfl (k := ?_)
              refine r_istore hm rfl (k := ?_)
              refine r_aload_n hm rfl (k := ?_)
              refine r_getR (hm := hm) (hf := rfl) (hd := rfl) (hs := (by first | assumption | exact (g1.1 _).trans rfl)) (hv := (by first | exact putI_eq | exact (putI_ne (by omega)).trans (by first | exact putI_eq | exact (putI_ne (by omega)).trans (by first | exact putI_eq | exact (putI_ne (by omega)).trans (by first | first | assumption | exact g1.2 _ _ _ rfl | exact eLt _ (by omega) | exact eN _ (by omega) | exact Q0 _ _ (by omega) (by omega) | exact Q1 _ _ (by omega) (by omega)) | first | assumption | exact g1.2 _ _ _ rfl | exact eLt _ (by omega) | exact eN _ (by omega) | exact Q0 _ _ (by omega) (by omega) | exact Q1 _ _ (by omega) (by omega)) | first | assumption | exact g1.2 _ _ _ rfl | exact eLt _ (by omega) | exact eN _ (by omega) | exact Q0 _ _ (by omega) (by omega) | exact Q1 _ _ (by omega) (by omega)) | first | assumption | exact g1.2 _ _ _ rfl | exact eLt _ (by omega) | exact eN _ (by omega) | exact Q0 _ _ (by omega) (by omega) | exact Q1 _ _ (by omega) (by omega))) (k := ?_)
              refine r_iload_n hm rfl (k := ?_)
              refine r_iconst hm rfl (k := ?_)
              refine r_isub hm rfl (hr := (by omega)) (k := ?_)
              refine r_dup2 hm rfl (k := ?_)
              refine r_iald (hm := hm) (hf := rfl) (hs := (by first | assumption | exact (g1.1 _).trans rfl)) (kk := m) (hi := by omega) (hn := (by omega)) (hv := (by first | exact putI_eq | exact (putI_ne (by omega)).trans (by first | exact putI_eq | exact (putI_ne (by omega)).trans (by first | exact putI_eq | exact (putI_ne (by omega)).trans (by first | first | assumption | exact g1.2 _ _ _ rfl | exact eLt _ (by omega) | exact eN _ (by omega) | exact Q0 _ _ (by omega) (by omega) | exact Q1 _ _ (by omega) (by omega)) | first | assumption | exact g1.2 _ _ _ rfl | exact eLt _ (by omega) | exact eN _ (by omega) | exact Q0 _ _ (by omega) (by omega) | exact Q1 _ _ (by omega) (by omega)) | first | assumption | exact g1.2 _ _ _ rfl | exact eLt _ (by omega) | exact eN _ (by omega) | exact Q0 _ _ (by omega) (by omega) | exact Q1 _ _ (by omega) (by omega)) | first | assumption | exact g1.2 _ _ _ rfl | exact eLt _ (by omega) | exact eN _ (by omega) | exact Q0 _ _ (by omega) (by omega) | exact Q1 _ _ (by omega) (by omega))) (k := ?_)
              refine r_iload hm rfl (k := ?_)
              refine r_if_eq (t := 159) hm rfl rfl (fun c141 => ?_) (fun c141 => ?_)
              · refine r_iconst hm rfl (k := ?_)
                refine r_iadd hm rfl (hr := (by omega)) (k := ?_)
                refine r_iast (hm := hm) (hf := rfl) (h28 := (by omega)) (hs := (by first | assumption | exact (g1.1 _).trans rfl)) (kk := m) (hi := by omega) (hn := (by omega)) (k := ?_)
                refine r_aload_n hm rfl (k := ?_)
                refine r_getR (hm := hm) (hf := rfl) (hd := rfl) (hs := (by first | assumption | exact (g1.1 _).trans rfl)) (hv := (by first | exact putI_eq | exact (putI_ne (by omega)).trans (by first | exact putI_eq | exact (putI_ne (by omega)).trans (by first | exact putI_eq | exact (putI_ne (by omega)).trans (by first | first | assumption | exact g1.2 _ _ _ rfl | exact eLt _ (by omega) | exact eN _ (by omega) | exact Q0 _ _ (by omega) (by omega) | exact Q1 _ _ (by omega) (by omega)) | first | assumption | exact g1.2 _ _ _ rfl | exact eLt _ (by omega) | exact eN _ (by omega) | exact Q0 _ _ (by omega) (by omega) | exact Q1 _ _ (by omega) (by omega)) | first | assumption | exact g1.2 _ _ _ rfl | exact eLt _ (by omega) | exact eN _ (by omega) | exact Q0 _ _ (by omega) (by omega) | exact Q1 _ _ (by omega) (by omega)) | first | assumption | exact g1.2 _ _ _ rfl | exact eLt _ (by omega) | exact eN _ (by omega) | exact Q0 _ _ (by omega) (by omega) | exact Q1 _ _ (by omega) (by omega))) (k := ?_)
                refine r_bipush hm rfl (k := ?_)
                refine r_iload_n hm rfl (k := ?_)
                refine r_imul hm rfl (hr := (by omega)) (k := ?_)
                refine r_iload hm rfl (k := ?_)
                refine r_iadd hm rfl (hr := (by omega)) (k := ?_)
                refine r_iload_n hm rfl (k := ?_)
                refine r_iconst hm rfl (k := ?_)
                refine r_isub hm rfl (hr := (by omega)) (k := ?_)
                refine r_iast (hm := hm) (hf := rfl) (h28 := (by omega)) (hs := (by first | assumption | exact (g1.1 _).trans rfl)) (kk := 20 * i + k) (hi := by omega) (hn := (by omega)) (k := ?_)
                refine r_iinc hm rfl (hr := (by omega)) (k := ?_)
                refine r_goto (t := 8) hm rfl (k := ?_)
                have eg : gp x i k = 0 := if_pos (Or.inr (by omega))
                have en : nz x i k = 0 := if_neg (by omega)
                have e9 : lbN x lt i (k + 1) = (ln, fl + gp x i k + lt i k, upf nd ln (nd ln + nz x i k), upf lo k ln) := by
                  rw [show lbN x lt i (k + 1) = lb1 x lt i k (lbN x lt i k) from rfl, hst]
                  exact if_neg (fun z9 => by obtain ⟨z1, z2⟩ := z9; rw [eg] at z2; dsimp only at z2; omega)
                have ei : m = ln := by omega
                refine ih (d - 1) (by omega) (k + 1) _ (m + 1) ln (lt i k) (upf nd ln (nd ln + nz x i k)) (upf lo k ln) _ _ _ _ (by omega) (e9.trans (by rw [eg, b5 (by omega), Int.zero_add, Int.zero_add])) (by omega) (Sm.put (Sm.put S1 (by omega)) (by omega)) (fun l hl9 => ?_) (fun k2 hk2 => ?_)
                · simp (disch := omega) only [putI_fne, putI_feq, upf_ne, upf_eq]
                  rw [ei]
                  by_cases el : l = ln
                  · subst el
                    simp (disch := omega) only [putI_fne, putI_feq, upf_ne, upf_eq]
                    rw [en]
                  · simp (disch := omega) only [putI_fne, putI_feq, upf_ne, upf_eq]
                    exact eN l (by omega)
                · simp (disch := omega) only [putI_fne, putI_feq, upf_ne, upf_eq]
                  by_cases ek : k2 = k
                  · subst ek
                    simp (disch := omega) only [putI_fne, putI_feq, upf_ne, upf_eq]
                    omega
                  · simp (disch := omega) only [putI_fne, putI_feq, upf_ne, upf_eq]
                    exact eO k2 (by omega)
              · exfalso; omega
        · refine r_iload hm rfl (k := ?_)
          refine r_aload_n hm rfl (k := ?_)
          refine r_iconst hm rfl (k := ?_)
          refine r_callv (j2 := 176) hm rfl rfl rfl rfl rfl rfl (by first | assumption | exact (g1.1 _).trans rfl) (Nat.le_of_ble_eq_true rfl) (Nat.le_of_ble_eq_true rfl) rfl ⟨Nat.le_of_ble_eq_true rfl, Nat.le_of_ble_eq_true rfl, Nat.le_of_ble_eq_true rfl, Nat.le_of_ble_eq_true rfl, Nat.le_of_ble_eq_true rfl⟩ rfl (m_rule g1 hc1 hc3 hR1 (i := 1) (by omega)) (fun v9 h9 p9 => ?_)
          obtain ⟨e1, e2⟩ := p9
          subst e2
          replace e1 := e1.symm
          subst e1
          change RN 192 91 _ _ _ 0 0 _
          dsimp only [Option.toList, List.cons_append, List.nil_append]
          refine r_icmp_le (t := 98) hm rfl rfl (fun c91 => ?_) (fun c91 => ?_)
          · refine r_iconst hm rfl (k := ?_)
            refine r_istore hm rfl (k := ?_)
            refine r_iload hm rfl (k := ?_)
            refine r_if_eq (t := 116) hm rfl rfl (fun c103 => ?_) (fun c103 => ?_)
            · refine r_iload hm rfl (k := ?_)
              refine r_if_eq (t := 126) hm rfl rfl (fun c118 => ?_) (fun c118 => ?_)
              · refine r_iload hm rfl (k := ?_)
                refine r_istore hm rfl (k := ?_)
                refine r_aload_n hm rfl (k := ?_)
                refine r_getR (hm := hm) (hf := rfl) (hd := rfl) (hs := (by first | assumption | exact (g1.1 _).trans rfl)) (hv := (by first | exact putI_eq | exact (putI_ne (by omega)).trans (by first | exact putI_eq | exact (putI_ne (by omega)).trans (by first | exact putI_eq | exact (putI_ne (by omega)).trans (by first | first | assumption | exact g1.2 _ _ _ rfl | exact eLt _ (by omega) | exact eN _ (by omega) | exact Q0 _ _ (by omega) (by omega) | exact Q1 _ _ (by omega) (by omega)) | first | assumption | exact g1.2 _ _ _ rfl | exact eLt _ (by omega) | exact eN _ (by omega) | exact Q0 _ _ (by omega) (by omega) | exact Q1 _ _ (by omega) (by omega)) | first | assumption | exact g1.2 _ _ _ rfl | exact eLt _ (by omega) | exact eN _ (by omega) | exact Q0 _ _ (by omega) (by omega) | exact Q1 _ _ (by omega) (by omega)) | first | assumption | exact g1.2 _ _ _ rfl | exact eLt _ (by omega) | exact eN _ (by omega) | exact Q0 _ _ (by omega) (by omega) | exact Q1 _ _ (by omega) (by omega))) (k := ?_)
                refine r_iload_n hm rfl (k := ?_)
                refine r_iconst hm rfl (k := ?_)
                refine r_isub hm rfl (hr := (by omega)) (k := ?_)
                refine r_dup2 hm rfl (k := ?_)
                refine r_iald (hm := hm) (hf := rfl) (hs := (by first | assumption | exact (g1.1 _).trans rfl)) (kk := m - 1) (hi := by omega) (hn := (by omega)) (hv := (by first | exact putI_eq | exact (putI_ne (by omega)).trans (by first | exact putI_eq | exact (putI_ne (by omega)).trans (by first | exact putI_eq | exact (putI_ne (by omega)).trans (by first | first | assumption | exact g1.2 _ _ _ rfl | exact eLt _ (by omega) | exact eN _ (by omega) | exact Q0 _ _ (by omega) (by omega) | exact Q1 _ _ (by omega) (by omega)) | first | assumption | exact g1.2 _ _ _ rfl | exact eLt _ (by omega) | exact eN _ (by omega) | exact Q0 _ _ (by omega) (by omega) | exact Q1 _ _ (by omega) (by omega)) | first | assumption | exact g1.2 _ _ _ rfl | exact eLt _ (by omega) | exact eN _ (by omega) | exact Q0 _ _ (by omega) (by omega) | exact Q1 _ _ (by omega) (by omega)) | first | assumption | exact g1.2 _ _ _ rfl | exact eLt _ (by omega) | exact eN _ (by omega) | exact Q0 _ _ (by omega) (by omega) | exact Q1 _ _ (by omega) (by omega))) (k := ?_)
                refine r_iload hm rfl (k := ?_)
                refine r_if_eq (t := 159) hm rfl rfl (fun c141 => ?_) (fun c141 => ?_)
                · refine r_iconst hm rfl (k := ?_)
                  refine r_iadd hm rfl (hr := (by omega)) (k := ?_)
                  refine r_iast (hm := hm) (hf := rfl) (h28 := (by omega)) (hs := (by first | assumption | exact (g1.1 _).trans rfl)) (kk := m - 1) (hi := by omega) (hn := (by omega)) (k := ?_)
                  refine r_aload_n hm rfl (k := ?_)
                  refine r_getR (hm := hm) (hf := rfl) (hd := rfl) (hs := (by first | assumption | exact (g1.1 _).trans rfl)) (hv := (by first | exact putI_eq | exact (putI_ne (by omega)).trans (by first | exact putI_eq | exact (putI_ne (by omega)).trans (by first | exact putI_eq | exact (putI_ne (by omega)).trans (by first | first | assumption | exact g1.2 _ _ _ rfl | exact eLt _ (by omega) | exact eN _ (by omega) | exact Q0 _ _ (by omega) (by omega) | exact Q1 _ _ (by omega) (by omega)) | first | assumption | exact g1.2 _ _ _ rfl | exact eLt _ (by omega) | exact eN _ (by omega) | exact Q0 _ _ (by omega) (by omega) | exact Q1 _ _ (by omega) (by omega)) | first | assumption | exact g1.2 _ _ _ rfl | exact eLt _ (by omega) | exact eN _ (by omega) | exact Q0 _ _ (by omega) (by omega) | exact Q1 _ _ (by omega) (by omega)) | first | assumption | exact g1.2 _ _ _ rfl | exact eLt _ (by omega) | exact eN _ (by omega) | exact Q0 _ _ (by omega) (by omega) | exact Q1 _ _ (by omega) (by omega))) (k := ?_)
                  refine r_bipush hm rfl (k := ?_)
                  refine r_iload_n hm rfl (k := ?_)
                  refine r_imul hm rfl (hr := (by omega)) (k := ?_)
                  refine r_iload hm rfl (k := ?_)
                  refine r_iadd hm rfl (hr := (by omega)) (k := ?_)
                  refine r_iload_n hm rfl (k := ?_)
                  refine r_iconst hm rfl (k := ?_)
                  refine r_isub hm rfl (hr := (by omega)) (k := ?_)
                  refine r_iast (hm := hm) (hf := rfl) (h28 := (by omega)) (hs := (by first | assumption | exact (g1.1 _).trans rfl)) (kk := 20 * i + k) (hi := by omega) (hn := (by omega)) (k := ?_)
                  refine r_iinc hm rfl (hr := (by omega)) (k := ?_)
                  refine r_goto (t := 8) hm rfl (k := ?_)
                  have eg : gp x i k = 1 := if_neg (by omega)
                  have en : nz x i k = 0 := if_neg (by omega)
                  have e9 : lbN x lt i (k + 1) = (ln, fl + gp x i k + lt i k, upf nd ln (nd ln + nz x i k), upf lo k ln) := by
                    rw [show lbN x lt i (k + 1) = lb1 x lt i k (lbN x lt i k) from rfl, hst]
                    exact if_neg (fun z9 => by obtain ⟨z1, z2⟩ := z9; rw [eg] at z2; dsimp only at z2; omega)
                  have ei : (m - 1) = ln := by omega
                  refine ih (d - 1) (by omega) (k + 1) _ m ln (fl + 1 + lt i k) (upf nd ln (nd ln + nz x i k)) (upf lo k ln) _ _ _ _ (by omega) (e9.trans (by rw [eg])) (by omega) (Sm.put (Sm.put S1 (by omega)) (by omega)) (fun l hl9 => ?_) (fun k2 hk2 => ?_)
                  · simp (disch := omega) only [putI_fne, putI_feq, upf_ne, upf_eq]
                    rw [ei]
                    by_cases el : l = ln
                    · subst el
                      simp (disch := omega) only [putI_fne, putI_feq, upf_ne, upf_eq]
                      rw [en]
                    · simp (disch := omega) only [putI_fne, putI_feq, upf_ne, upf_eq]
                      exact eN l (by omega)
                  · simp (disch := omega) only [putI_fne, putI_feq, upf_ne, upf_eq]
                    by_cases ek : k2 = k
                    · subst ek
                      simp (disch := omega) only [putI_fne, putI_feq, upf_ne, upf_eq]
                      omega
                    · simp (disch := omega) only [putI_fne, putI_feq, upf_ne, upf_eq]
                      exact eO k2 (by omega)
                · exfalso; omega
              · exfalso; omega
            · exfalso; omega
          · refine r_iconst hm rfl (k := ?_)
            refine r_goto (t := 99) hm rfl (k := ?_)
            refine r_istore hm rfl (k := ?_)
            refine r_iload hm rfl (k := ?_)
            refine r_if_eq (t := 116) hm rfl rfl (fun c103 => ?_) (fun c103 => ?_)
            · exfalso; omega
            · refine r_aload_n hm rfl (k := ?_)
              refine r_getR (hm := hm) (hf := rfl) (hd := rfl) (hs := (by first | assumption | exact (g1.1 _).trans rfl)) (hv := (by first | exact putI_eq | exact (putI_ne (by omega)).trans (by first | exact putI_eq | exact (putI_ne (by omega)).trans (by first | exact putI_eq | exact (putI_ne (by omega)).trans (by first | first | assumption | exact g1.2 _ _ _ rfl | exact eLt _ (by omega) | exact eN _ (by omega) | exact Q0 _ _ (by omega) (by omega) | exact Q1 _ _ (by omega) (by omega)) | first | assumption | exact g1.2 _ _ _ rfl | exact eLt _ (by omega) | exact eN _ (by omega) | exact Q0 _ _ (by omega) (by omega) | exact Q1 _ _ (by omega) (by omega)) | first | assumption | exact g1.2 _ _ _ rfl | exact eLt _ (by omega) | exact eN _ (by omega) | exact Q0 _ _ (by omega) (by omega) | exact Q1 _ _ (by omega) (by omega)) | first | assumption | exact g1.2 _ _ _ rfl | exact eLt _ (by omega) | exact eN _ (by omega) | exact Q0 _ _ (by omega) (by omega) | exact Q1 _ _ (by omega) (by omega))) (k := ?_)
              refine r_iload_n hm rfl (k := ?_)
              refine r_iconst hm rfl (k := ?_)
              refine r_iast (hm := hm) (hf := rfl) (h28 := (by omega)) (hs := (by first | assumption | exact (g1.1 _).trans rfl)) (kk := m) (hi := by omega) (hn := (by omega)) (k := ?_)
              refine r_iinc hm rfl (hr := (by omega)) (k := ?_)
              refine RN.abs (fun h1 => Sm (fun a k => a = 1113 ∨ (a = 1104 ∧ 20 * i ≤ k ∧ k < 20 * i + 20)) h h1 ∧ (∀ l, l < m + 1 → h1.2.1 1113 l = nd l) ∧ (∀ k2, k2 < k → h1.2.1 1104 (20 * i + k2) = (lo k2 : Int))) ⟨Sm.put S1 (by omega), fun l hl9 => ?_, fun k2 hk2 => by rw [putI_ne (by omega)]; exact eO k2 hk2⟩ (fun h1 H9 => ?_)
              · by_cases el : l = m
                · subst el
                  rw [putI_eq]
                  
                  have e3 := b4 l (by omega)
                  exact e3.symm
                · rw [putI_ne (by omega)]
                  exact eN l (by omega)
              obtain ⟨S1, eN, eO⟩ := H9
              have g1 := S1.gg g
              have hc1 : h1.2.1 1085 12 = (c : Int) := (S1.2.2 _ _ (by omega)).trans hc
              have hR1 := S1.repM (fun a k q9 => by omega) hR
              obtain ⟨M0, M1, M2, M3, M4, Q0, Q1, Q2, S0, N0, N1⟩ := hR1.use
              have eLt : ∀ k, k < pcs x i → h1.2.1 1103 (1200 * r + 20 * i + k) = lt i k := fun k hk => (S1.2.2 _ _ (by omega)).trans (hLt k hk)
              refine r_iload hm rfl (k := ?_)
              refine r_if_eq (t := 126) hm rfl rfl (fun c118 => ?_) (fun c118 => ?_)
              · exfalso; omega
              · refine r_iload hm rfl (k := ?_)
                refine r_goto (t := 128) hm rfl (k := ?_)
                refine r_istore hm rfl (k := ?_)
                refine r_aload_n hm rfl (k := ?_)
                refine r_getR (hm := hm) (hf := rfl) (hd := rfl) (hs := (by first | assumption | exact (g1.1 _).trans rfl)) (hv := (by first | exact putI_eq | exact (putI_ne (by omega)).trans (by first | exact putI_eq | exact (putI_ne (by omega)).trans (by first | exact putI_eq | exact (putI_ne (by omega)).trans (by first | first | assumption | exact g1.2 _ _ _ rfl | exact eLt _ (by omega) | exact eN _ (by omega) | exact Q0 _ _ (by omega) (by omega) | exact Q1 _ _ (by omega) (by omega)) | first | assumption | exact g1.2 _ _ _ rfl | exact eLt _ (by omega) | exact eN _ (by omega) | exact Q0 _ _ (by omega) (by omega) | exact Q1 _ _ (by omega) (by omega)) | first | assumption | exact g1.2 _ _ _ rfl | exact eLt _ (by omega) | exact eN _ (by omega) | exact Q0 _ _ (by omega) (by omega) | exact Q1 _ _ (by omega) (by omega)) | first | assumption | exact g1.2 _ _ _ rfl | exact eLt _ (by omega) | exact eN _ (by omega) | exact Q0 _ _ (by omega) (by omega) | exact Q1 _ _ (by omega) (by omega))) (k := ?_)
                refine r_iload_n hm rfl (k := ?_)
                refine r_iconst hm rfl (k := ?_)
                refine r_isub hm rfl (hr := (by omega)) (k := ?_)
                refine r_dup2 hm rfl (k := ?_)
                refine r_iald (hm := hm) (hf := rfl) (hs := (by first | assumption | exact (g1.1 _).trans rfl)) (kk := m) (hi := by omega) (hn := (by omega)) (hv := (by first | exact putI_eq | exact (putI_ne (by omega)).trans (by first | exact putI_eq | exact (putI_ne (by omega)).trans (by first | exact putI_eq | exact (putI_ne (by omega)).trans (by first | first | assumption | exact g1.2 _ _ _ rfl | exact eLt _ (by omega) | exact eN _ (by omega) | exact Q0 _ _ (by omega) (by omega) | exact Q1 _ _ (by omega) (by omega)) | first | assumption | exact g1.2 _ _ _ rfl | exact eLt _ (by omega) | exact eN _ (by omega) | exact Q0 _ _ (by omega) (by omega) | exact Q1 _ _ (by omega) (by omega)) | first | assumption | exact g1.2 _ _ _ rfl | exact eLt _ (by omega) | exact eN _ (by omega) | exact Q0 _ _ (by omega) (by omega) | exact Q1 _ _ (by omega) (by omega)) | first | assumption | exact g1.2 _ _ _ rfl | exact eLt _ (by omega) | exact eN _ (by omega) | exact Q0 _ _ (by omega) (by omega) | exact Q1 _ _ (by omega) (by omega))) (k := ?_)
                refine r_iload hm rfl (k := ?_)
                refine r_if_eq (t := 159) hm rfl rfl (fun c141 => ?_) (fun c141 => ?_)
                · refine r_iconst hm rfl (k := ?_)
                  refine r_iadd hm rfl (hr := (by omega)) (k := ?_)
                  refine r_iast (hm := hm) (hf := rfl) (h28 := (by omega)) (hs := (by first | assumption | exact (g1.1 _).trans rfl)) (kk := m) (hi := by omega) (hn := (by omega)) (k := ?_)
                  refine r_aload_n hm rfl (k := ?_)
                  refine r_getR (hm := hm) (hf := rfl) (hd := rfl) (hs := (by first | assumption | exact (g1.1 _).trans rfl)) (hv := (by first | exact putI_eq | exact (putI_ne (by omega)).trans (by first | exact putI_eq | exact (putI_ne (by omega)).trans (by first | exact putI_eq | exact (putI_ne (by omega)).trans (by first | first | assumption | exact g1.2 _ _ _ rfl | exact eLt _ (by omega) | exact eN _ (by omega) | exact Q0 _ _ (by omega) (by omega) | exact Q1 _ _ (by omega) (by omega)) | first | assumption | exact g1.2 _ _ _ rfl | exact eLt _ (by omega) | exact eN _ (by omega) | exact Q0 _ _ (by omega) (by omega) | exact Q1 _ _ (by omega) (by omega)) | first | assumption | exact g1.2 _ _ _ rfl | exact eLt _ (by omega) | exact eN _ (by omega) | exact Q0 _ _ (by omega) (by omega) | exact Q1 _ _ (by omega) (by omega)) | first | assumption | exact g1.2 _ _ _ rfl | exact eLt _ (by omega) | exact eN _ (by omega) | exact Q0 _ _ (by omega) (by omega) | exact Q1 _ _ (by omega) (by omega))) (k := ?_)
                  refine r_bipush hm rfl (k := ?_)
                  refine r_iload_n hm rfl (k := ?_)
                  refine r_imul hm rfl (hr := (by omega)) (k := ?_)
                  refine r_iload hm rfl (k := ?_)
                  refine r_iadd hm rfl (hr := (by omega)) (k := ?_)
                  refine r_iload_n hm rfl (k := ?_)
                  refine r_iconst hm rfl (k := ?_)
                  refine r_isub hm rfl (hr := (by omega)) (k := ?_)
                  refine r_iast (hm := hm) (hf := rfl) (h28 := (by omega)) (hs := (by first | assumption | exact (g1.1 _).trans rfl)) (kk := 20 * i + k) (hi := by omega) (hn := (by omega)) (k := ?_)
                  refine r_iinc hm rfl (hr := (by omega)) (k := ?_)
                  refine r_goto (t := 8) hm rfl (k := ?_)
                  have eg : gp x i k = 1 := if_neg (by omega)
                  have en : nz x i k = 0 := if_neg (by omega)
                  have e9 : lbN x lt i (k + 1) = (ln + 1, lt i k, upf nd (ln + 1) (nd (ln + 1) + nz x i k), upf lo k (ln + 1)) := by
                    rw [show lbN x lt i (k + 1) = lb1 x lt i k (lbN x lt i k) from rfl, hst]
                    exact if_pos ⟨by omega, by rw [eg]; dsimp only; omega⟩
                  have ei : m = (ln + 1) := by omega
                  refine ih (d - 1) (by omega) (k + 1) _ (m + 1) (ln + 1) (lt i k) (upf nd (ln + 1) (nd (ln + 1) + nz x i k)) (upf lo k (ln + 1)) _ _ _ _ (by omega) e9 (by omega) (Sm.put (Sm.put S1 (by omega)) (by omega)) (fun l hl9 => ?_) (fun k2 hk2 => ?_)
                  · simp (disch := omega) only [putI_fne, putI_feq, upf_ne, upf_eq]
                    rw [ei]
                    by_cases el : l = (ln + 1)
                    · subst el
                      simp (disch := omega) only [putI_fne, putI_feq, upf_ne, upf_eq]
                      rw [en]
                    · simp (disch := omega) only [putI_fne, putI_feq, upf_ne, upf_eq]
                      exact eN l (by omega)
                  · simp (disch := omega) only [putI_fne, putI_feq, upf_ne, upf_eq]
                    by_cases ek : k2 = k
                    · subst ek
                      simp (disch := omega) only [putI_fne, putI_feq, upf_ne, upf_eq]
                      omega
                    · simp (disch := omega) only [putI_fne, putI_feq, upf_ne, upf_eq]
                      exact eO k2 (by omega)
                · exfalso; omega
      · exfalso; omega
    · refine r_iconst hm rfl (k := ?_)
      refine r_goto (t := 59) hm rfl (k := ?_)
      refine r_istore hm rfl (k := ?_)
      refine r_iload hm rfl (k := ?_)
      refine r_iload hm rfl (k := ?_)
      refine r_if_eq (t := 72) hm rfl rfl (fun c65 => ?_) (fun c65 => ?_)
      · exfalso; omega
      · refine r_iconst hm rfl (k := ?_)
        refine r_goto (t := 73) hm rfl (k := ?_)
        refine r_iadd hm rfl (hr := (by omega)) (k := ?_)
        refine r_iload hm rfl (k := ?_)
        refine r_iadd hm rfl (hr := (by omega)) (k := ?_)
        refine r_istore hm rfl (k := ?_)
        refine r_iload hm rfl (k := ?_)
        refine r_if_eq (t := 94) hm rfl rfl (fun c81 => ?_) (fun c81 => ?_)
        · refine r_iconst hm rfl (k := ?_)
          refine r_goto (t := 99) hm rfl (k := ?_)
          refine r_istore hm rfl (k := ?_)
          refine r_iload hm rfl (k := ?_)
          refine r_if_eq (t := 116) hm rfl rfl (fun c103 => ?_) (fun c103 => ?_)
          · exfalso; omega
          · refine r_aload_n hm rfl (k := ?_)
            refine r_getR (hm := hm) (hf := rfl) (hd := rfl) (hs := (by first | assumption | exact (g1.1 _).trans rfl)) (hv := (by first | exact putI_eq | exact (putI_ne (by omega)).trans (by first | exact putI_eq | exact (putI_ne (by omega)).trans (by first | exact putI_eq | exact (putI_ne (by omega)).trans (by first | first | assumption | exact g1.2 _ _ _ rfl | exact eLt _ (by omega) | exact eN _ (by omega) | exact Q0 _ _ (by omega) (by omega) | exact Q1 _ _ (by omega) (by omega)) | first | assumption | exact g1.2 _ _ _ rfl | exact eLt _ (by omega) | exact eN _ (by omega) | exact Q0 _ _ (by omega) (by omega) | exact Q1 _ _ (by omega) (by omega)) | first | assumption | exact g1.2 _ _ _ rfl | exact eLt _ (by omega) | exact eN _ (by omega) | exact Q0 _ _ (by omega) (by omega) | exact Q1 _ _ (by omega) (by omega)) | first | assumption | exact g1.2 _ _ _ rfl | exact eLt _ (by omega) | exact eN _ (by omega) | exact Q0 _ _ (by omega) (by omega) | exact Q1 _ _ (by omega) (by omega))) (k := ?_)
            refine r_iload_n hm rfl (k := ?_)
            refine r_iconst hm rfl (k := ?_)
            refine r_iast (hm := hm) (hf := rfl) (h28 := (by omega)) (hs := (by first | assumption | exact (g1.1 _).trans rfl)) (kk := m) (hi := by omega) (hn := (by omega)) (k := ?_)
            refine r_iinc hm rfl (hr := (by omega)) (k := ?_)
            refine RN.abs (fun h1 => Sm (fun a k => a = 1113 ∨ (a = 1104 ∧ 20 * i ≤ k ∧ k < 20 * i + 20)) h h1 ∧ (∀ l, l < m + 1 → h1.2.1 1113 l = nd l) ∧ (∀ k2, k2 < k → h1.2.1 1104 (20 * i + k2) = (lo k2 : Int))) ⟨Sm.put S1 (by omega), fun l hl9 => ?_, fun k2 hk2 => by rw [putI_ne (by omega)]; exact eO k2 hk2⟩ (fun h1 H9 => ?_)
            · by_cases el : l = m
              · subst el
                rw [putI_eq]
                have := hst.symm.trans (show lbN x lt i k = lbN x lt i 0 by rw [show k = 0 by omega])
                have e3 : nd = fun _ => 1 := (congrArg (fun z : LB => z.2.2.1) this)
                rw [e3]
              · rw [putI_ne (by omega)]
                exact eN l (by omega)
            obtain ⟨S1, eN, eO⟩ := H9
            have g1 := S1.gg g
            have hc1 : h1.2.1 1085 12 = (c : Int) := (S1.2.2 _ _ (by omega)).trans hc
            have hR1 := S1.repM (fun a k q9 => by omega) hR
            obtain ⟨M0, M1, M2, M3, M4, Q0, Q1, Q2, S0, N0, N1⟩ := hR1.use
            have eLt : ∀ k, k < pcs x i → h1.2.1 1103 (1200 * r + 20 * i + k) = lt i k := fun k hk => (S1.2.2 _ _ (by omega)).trans (hLt k hk)
            refine r_iload hm rfl (k := ?_)
            refine r_if_eq (t := 126) hm rfl rfl (fun c118 => ?_) (fun c118 => ?_)
            · exfalso; omega
            · refine r_iload hm rfl (k := ?_)
              refine r_goto (t := 128) hm rfl (k := ?_)
              refine r_istore hm rfl (k := ?_)
              refine r_aload_n hm rfl (k := ?_)
              refine r_getR (hm := hm) (hf := rfl) (hd := rfl) (hs := (by first | assumption | exact (g1.1 _).trans rfl)) (hv := (by first | exact putI_eq | exact (putI_ne (by omega)).trans (by first | exact putI_eq | exact (putI_ne (by omega)).trans (by first | exact putI_eq | exact (putI_ne (by omega)).trans (by first | first | assumption | exact g1.2 _ _ _ rfl | exact eLt _ (by omega) | exact eN _ (by omega) | exact Q0 _ _ (by omega) (by omega) | exact Q1 _ _ (by omega) (by omega)) | first | assumption | exact g1.2 _ _ _ rfl | exact eLt _ (by omega) | exact eN _ (by omega) | exact Q0 _ _ (by omega) (by omega) | exact Q1 _ _ (by omega) (by omega)) | first | assumption | exact g1.2 _ _ _ rfl | exact eLt _ (by omega) | exact eN _ (by omega) | exact Q0 _ _ (by omega) (by omega) | exact Q1 _ _ (by omega) (by omega)) | first | assumption | exact g1.2 _ _ _ rfl | exact eLt _ (by omega) | exact eN _ (by omega) | exact Q0 _ _ (by omega) (by omega) | exact Q1 _ _ (by omega) (by omega))) (k := ?_)
              refine r_iload_n hm rfl (k := ?_)
              refine r_iconst hm rfl (k := ?_)
              refine r_isub hm rfl (hr := (by omega)) (k := ?_)
              refine r_dup2 hm rfl (k := ?_)
              refine r_iald (hm := hm) (hf := rfl) (hs := (by first | assumption | exact (g1.1 _).trans rfl)) (kk := m) (hi := by omega) (hn := (by omega)) (hv := (by first | exact putI_eq | exact (putI_ne (by omega)).trans (by first | exact putI_eq | exact (putI_ne (by omega)).trans (by first | exact putI_eq | exact (putI_ne (by omega)).trans (by first | first | assumption | exact g1.2 _ _ _ rfl | exact eLt _ (by omega) | exact eN _ (by omega) | exact Q0 _ _ (by omega) (by omega) | exact Q1 _ _ (by omega) (by omega)) | first | assumption | exact g1.2 _ _ _ rfl | exact eLt _ (by omega) | exact eN _ (by omega) | exact Q0 _ _ (by omega) (by omega) | exact Q1 _ _ (by omega) (by omega)) | first | assumption | exact g1.2 _ _ _ rfl | exact eLt _ (by omega) | exact eN _ (by omega) | exact Q0 _ _ (by omega) (by omega) | exact Q1 _ _ (by omega) (by omega)) | first | assumption | exact g1.2 _ _ _ rfl | exact eLt _ (by omega) | exact eN _ (by omega) | exact Q0 _ _ (by omega) (by omega) | exact Q1 _ _ (by omega) (by omega))) (k := ?_)
              refine r_iload hm rfl (k := ?_)
              refine r_if_eq (t := 159) hm rfl rfl (fun c141 => ?_) (fun c141 => ?_)
              · exfalso; omega
              · refine r_aload_n hm rfl (k := ?_)
                refine r_getR (hm := hm) (hf := rfl) (hd := rfl) (hs := (by first | assumption | exact (g1.1 _).trans rfl)) (hv := (by first | exact putI_eq | exact (putI_ne (by omega)).trans (by first | exact putI_eq | exact (putI_ne (by omega)).trans (by first | exact putI_eq | exact (putI_ne (by omega)).trans (by first | first | assumption | exact g1.2 _ _ _ rfl | exact eLt _ (by omega) | exact eN _ (by omega) | exact Q0 _ _ (by omega) (by omega) | exact Q1 _ _ (by omega) (by omega)) | first | assumption | exact g1.2 _ _ _ rfl | exact eLt _ (by omega) | exact eN _ (by omega) | exact Q0 _ _ (by omega) (by omega) | exact Q1 _ _ (by omega) (by omega)) | first | assumption | exact g1.2 _ _ _ rfl | exact eLt _ (by omega) | exact eN _ (by omega) | exact Q0 _ _ (by omega) (by omega) | exact Q1 _ _ (by omega) (by omega)) | first | assumption | exact g1.2 _ _ _ rfl | exact eLt _ (by omega) | exact eN _ (by omega) | exact Q0 _ _ (by omega) (by omega) | exact Q1 _ _ (by omega) (by omega))) (k := ?_)
                refine r_aload_n hm rfl (k := ?_)
                refine r_iload_n hm rfl (k := ?_)
                refine r_iload hm rfl (k := ?_)
                refine r_callv (j2 := 186) hm rfl rfl rfl rfl rfl rfl (by first | assumption | exact (g1.1 _).trans rfl) (Nat.le_of_ble_eq_true rfl) (Nat.le_of_ble_eq_true rfl) rfl ⟨Nat.le_of_ble_eq_true rfl, Nat.le_of_ble_eq_true rfl, Nat.le_of_ble_eq_true rfl, Nat.le_of_ble_eq_true rfl, Nat.le_of_ble_eq_true rfl⟩ rfl (m_place g1 hc1 hc3 hR1 (i := i) (k := k) (by omega) (by omega)) (fun v9 h9 p9 => ?_)
                obtain ⟨e1, e2⟩ := p9
                subst e2
                replace e1 := e1.symm
                subst e1
                change RN 192 155 _ _ _ 0 0 _
                dsimp only [Option.toList, List.cons_append, List.nil_append]
                refine r_iald (hm := hm) (hf := rfl) (hs := (by first | assumption | exact (g1.1 _).trans rfl)) (hi := rfl) (hn := (by omega)) (hv := (by first | exact putI_eq | exact (putI_ne (by omega)).trans (by first | exact putI_eq | exact (putI_ne (by omega)).trans (by first | exact putI_eq | exact (putI_ne (by omega)).trans (by first | first | assumption | exact g1.2 _ _ _ rfl | exact eLt _ (by omega) | exact eN _ (by omega) | exact Q0 _ _ (by omega) (by omega) | exact Q1 _ _ (by omega) (by omega)) | first | assumption | exact g1.2 _ _ _ rfl | exact eLt _ (by omega) | exact eN _ (by omega) | exact Q0 _ _ (by omega) (by omega) | exact Q1 _ _ (by omega) (by omega)) | first | assumption | exact g1.2 _ _ _ rfl | exact eLt _ (by omega) | exact eN _ (by omega) | exact Q0 _ _ (by omega) (by omega) | exact Q1 _ _ (by omega) (by omega)) | first | assumption | exact g1.2 _ _ _ rfl | exact eLt _ (by omega) | exact eN _ (by omega) | exact Q0 _ _ (by omega) (by omega) | exact Q1 _ _ (by omega) (by omega))) (k := ?_)
                refine r_goto (t := 160) hm rfl (k := ?_)
                refine r_iadd hm rfl (hr := (by omega)) (k := ?_)
                refine r_iast (hm := hm) (hf := rfl) (h28 := (by omega)) (hs := (by first | assumption | exact (g1.1 _).trans rfl)) (kk := m) (hi := by omega) (hn := (by omega)) (k := ?_)
                refine r_aload_n hm rfl (k := ?_)
                refine r_getR (hm := hm) (hf := rfl) (hd := rfl) (hs := (by first | assumption | exact (g1.1 _).trans rfl)) (hv := (by first | exact putI_eq | exact (putI_ne (by omega)).trans (by first | exact putI_eq | exact (putI_ne (by omega)).trans (by first | exact putI_eq | exact (putI_ne (by omega)).trans (by first | first | assumption | exact g1.2 _ _ _ rfl | exact eLt _ (by omega) | exact eN _ (by omega) | exact Q0 _ _ (by omega) (by omega) | exact Q1 _ _ (by omega) (by omega)) | first | assumption | exact g1.2 _ _ _ rfl | exact eLt _ (by omega) | exact eN _ (by omega) | exact Q0 _ _ (by omega) (by omega) | exact Q1 _ _ (by omega) (by omega)) | first | assumption | exact g1.2 _ _ _ rfl | exact eLt _ (by omega) | exact eN _ (by omega) | exact Q0 _ _ (by omega) (by omega) | exact Q1 _ _ (by omega) (by omega)) | first | assumption | exact g1.2 _ _ _ rfl | exact eLt _ (by omega) | exact eN _ (by omega) | exact Q0 _ _ (by omega) (by omega) | exact Q1 _ _ (by omega) (by omega))) (k := ?_)
                refine r_bipush hm rfl (k := ?_)
                refine r_iload_n hm rfl (k := ?_)
                refine r_imul hm rfl (hr := (by omega)) (k := ?_)
                refine r_iload hm rfl (k := ?_)
                refine r_iadd hm rfl (hr := (by omega)) (k := ?_)
                refine r_iload_n hm rfl (k := ?_)
                refine r_iconst hm rfl (k := ?_)
                refine r_isub hm rfl (hr := (by omega)) (k := ?_)
                refine r_iast (hm := hm) (hf := rfl) (h28 := (by omega)) (hs := (by first | assumption | exact (g1.1 _).trans rfl)) (kk := 20 * i + k) (hi := by omega) (hn := (by omega)) (k := ?_)
                refine r_iinc hm rfl (hr := (by omega)) (k := ?_)
                refine r_goto (t := 8) hm rfl (k := ?_)
                have eg : gp x i k = 0 := if_pos (Or.inl (by omega))
                have en : nz x i k = x.2.2.1 1 i k := if_pos (by omega)
                have e9 : lbN x lt i (k + 1) = (ln, fl + gp x i k + lt i k, upf nd ln (nd ln + nz x i k), upf lo k ln) := by
                  rw [show lbN x lt i (k + 1) = lb1 x lt i k (lbN x lt i k) from rfl, hst]
                  exact if_neg (fun z9 => by obtain ⟨z1, z2⟩ := z9; rw [eg] at z2; dsimp only at z2; omega)
                have ei : m = ln := by omega
                refine ih (d - 1) (by omega) (k + 1) _ (m + 1) ln (lt i k) (upf nd ln (nd ln + nz x i k)) (upf lo k ln) _ _ _ _ (by omega) (e9.trans (by rw [eg, b5 (by omega), Int.zero_add, Int.zero_add])) (by omega) (Sm.put (Sm.put S1 (by omega)) (by omega)) (fun l hl9 => ?_) (fun k2 hk2 => ?_)
                · simp (disch := omega) only [putI_fne, putI_feq, upf_ne, upf_eq]
                  rw [ei]
                  by_cases el : l = ln
                  · subst el
                    simp (disch := omega) only [putI_fne, putI_feq, upf_ne, upf_eq]
                    rw [en]
                  · simp (disch := omega) only [putI_fne, putI_feq, upf_ne, upf_eq]
                    exact eN l (by omega)
                · simp (disch := omega) only [putI_fne, putI_feq, upf_ne, upf_eq]
                  by_cases ek : k2 = k
                  · subst ek
                    simp (disch := omega) only [putI_fne, putI_feq, upf_ne, upf_eq]
                    omega
                  · simp (disch := omega) only [putI_fne, putI_feq, upf_ne, upf_eq]
                    exact eO k2 (by omega)
        · refine r_iload hm rfl (k := ?_)
          refine r_aload_n hm rfl (k := ?_)
          refine r_iconst hm rfl (k := ?_)
          refine r_callv (j2 := 176) hm rfl rfl rfl rfl rfl rfl (by first | assumption | exact (g1.1 _).trans rfl) (Nat.le_of_ble_eq_true rfl) (Nat.le_of_ble_eq_true rfl) rfl ⟨Nat.le_of_ble_eq_true rfl, Nat.le_of_ble_eq_true rfl, Nat.le_of_ble_eq_true rfl, Nat.le_of_ble_eq_true rfl, Nat.le_of_ble_eq_true rfl⟩ rfl (m_rule g1 hc1 hc3 hR1 (i := 1) (by omega)) (fun v9 h9 p9 => ?_)
          obtain ⟨e1, e2⟩ := p9
          subst e2
          replace e1 := e1.symm
          subst e1
          change RN 192 91 _ _ _ 0 0 _
          dsimp only [Option.toList, List.cons_append, List.nil_append]
          refine r_icmp_le (t := 98) hm rfl rfl (fun c91 => ?_) (fun c91 => ?_)
          · refine r_iconst hm rfl (k := ?_)
            refine r_istore hm rfl (k := ?_)
            refine r_iload hm rfl (k := ?_)
            refine r_if_eq (t := 116) hm rfl rfl (fun c103 => ?_) (fun c103 => ?_)
            · refine r_iload hm rfl (k := ?_)
              refine r_if_eq (t := 126) hm rfl rfl (fun c118 => ?_) (fun c118 => ?_)
              · refine r_iload hm rfl (k := ?_)
                refine r_istore hm rfl (k := ?_)
                refine r_aload_n hm rfl (k := ?_)
                refine r_getR (hm := hm) (hf := rfl) (hd := rfl) (hs := (by first | assumption | exact (g1.1 _).trans rfl)) (hv := (by first | exact putI_eq | exact (putI_ne (by omega)).trans (by first | exact putI_eq | exact (putI_ne (by omega)).trans (by first | exact putI_eq | exact (putI_ne (by omega)).trans (by first | first | assumption | exact g1.2 _ _ _ rfl | exact eLt _ (by omega) | exact eN _ (by omega) | exact Q0 _ _ (by omega) (by omega) | exact Q1 _ _ (by omega) (by omega)) | first | assumption | exact g1.2 _ _ _ rfl | exact eLt _ (by omega) | exact eN _ (by omega) | exact Q0 _ _ (by omega) (by omega) | exact Q1 _ _ (by omega) (by omega)) | first | assumption | exact g1.2 _ _ _ rfl | exact eLt _ (by omega) | exact eN _ (by omega) | exact Q0 _ _ (by omega) (by omega) | exact Q1 _ _ (by omega) (by omega)) | first | assumption | exact g1.2 _ _ _ rfl | exact eLt _ (by omega) | exact eN _ (by omega) | exact Q0 _ _ (by omega) (by omega) | exact Q1 _ _ (by omega) (by omega))) (k := ?_)
                refine r_iload_n hm rfl (k := ?_)
                refine r_iconst hm rfl (k := ?_)
                refine r_isub hm rfl (hr := (by omega)) (k := ?_)
                refine r_dup2 hm rfl (k := ?_)
                refine r_iald (hm := hm) (hf := rfl) (hs := (by first | assumption | exact (g1.1 _).trans rfl)) (kk := m - 1) (hi := by omega) (hn := (by omega)) (hv := (by first | exact putI_eq | exact (putI_ne (by omega)).trans (by first | exact putI_eq | exact (putI_ne (by omega)).trans (by first | exact putI_eq | exact (putI_ne (by omega)).trans (by first | first | assumption | exact g1.2 _ _ _ rfl | exact eLt _ (by omega) | exact eN _ (by omega) | exact Q0 _ _ (by omega) (by omega) | exact Q1 _ _ (by omega) (by omega)) | first | assumption | exact g1.2 _ _ _ rfl | exact eLt _ (by omega) | exact eN _ (by omega) | exact Q0 _ _ (by omega) (by omega) | exact Q1 _ _ (by omega) (by omega)) | first | assumption | exact g1.2 _ _ _ rfl | exact eLt _ (by omega) | exact eN _ (by omega) | exact Q0 _ _ (by omega) (by omega) | exact Q1 _ _ (by omega) (by omega)) | first | assumption | exact g1.2 _ _ _ rfl | exact eLt _ (by omega) | exact eN _ (by omega) | exact Q0 _ _ (by omega) (by omega) | exact Q1 _ _ (by omega) (by omega))) (k := ?_)
                refine r_iload hm rfl (k := ?_)
                refine r_if_eq (t := 159) hm rfl rfl (fun c141 => ?_) (fun c141 => ?_)
                · exfalso; omega
                · refine r_aload_n hm rfl (k := ?_)
                  refine r_getR (hm := hm) (hf := rfl) (hd := rfl) (hs := (by first | assumption | exact (g1.1 _).trans rfl)) (hv := (by first | exact putI_eq | exact (putI_ne (by omega)).trans (by first | exact putI_eq | exact (putI_ne (by omega)).trans (by first | exact putI_eq | exact (putI_ne (by omega)).trans (by first | first | assumption | exact g1.2 _ _ _ rfl | exact eLt _ (by omega) | exact eN _ (by omega) | exact Q0 _ _ (by omega) (by omega) | exact Q1 _ _ (by omega) (by omega)) | first | assumption | exact g1.2 _ _ _ rfl | exact eLt _ (by omega) | exact eN _ (by omega) | exact Q0 _ _ (by omega) (by omega) | exact Q1 _ _ (by omega) (by omega)) | first | assumption | exact g1.2 _ _ _ rfl | exact eLt _ (by omega) | exact eN _ (by omega) | exact Q0 _ _ (by omega) (by omega) | exact Q1 _ _ (by omega) (by omega)) | first | assumption | exact g1.2 _ _ _ rfl | exact eLt _ (by omega) | exact eN _ (by omega) | exact Q0 _ _ (by omega) (by omega) | exact Q1 _ _ (by omega) (by omega))) (k := ?_)
                  refine r_aload_n hm rfl (k := ?_)
                  refine r_iload_n hm rfl (k := ?_)
                  refine r_iload hm rfl (k := ?_)
                  refine r_callv (j2 := 186) hm rfl rfl rfl rfl rfl rfl (by first | assumption | exact (g1.1 _).trans rfl) (Nat.le_of_ble_eq_true rfl) (Nat.le_of_ble_eq_true rfl) rfl ⟨Nat.le_of_ble_eq_true rfl, Nat.le_of_ble_eq_true rfl, Nat.le_of_ble_eq_true rfl, Nat.le_of_ble_eq_true rfl, Nat.le_of_ble_eq_true rfl⟩ rfl (m_place g1 hc1 hc3 hR1 (i := i) (k := k) (by omega) (by omega)) (fun v9 h9 p9 => ?_)
                  obtain ⟨e1, e2⟩ := p9
                  subst e2
                  replace e1 := e1.symm
                  subst e1
                  change RN 192 155 _ _ _ 0 0 _
                  dsimp only [Option.toList, List.cons_append, List.nil_append]
                  refine r_iald (hm := hm) (hf := rfl) (hs := (by first | assumption | exact (g1.1 _).trans rfl)) (hi := rfl) (hn := (by omega)) (hv := (by first | exact putI_eq | exact (putI_ne (by omega)).trans (by first | exact putI_eq | exact (putI_ne (by omega)).trans (by first | exact putI_eq | exact (putI_ne (by omega)).trans (by first | first | assumption | exact g1.2 _ _ _ rfl | exact eLt _ (by omega) | exact eN _ (by omega) | exact Q0 _ _ (by omega) (by omega) | exact Q1 _ _ (by omega) (by omega)) | first | assumption | exact g1.2 _ _ _ rfl | exact eLt _ (by omega) | exact eN _ (by omega) | exact Q0 _ _ (by omega) (by omega) | exact Q1 _ _ (by omega) (by omega)) | first | assumption | exact g1.2 _ _ _ rfl | exact eLt _ (by omega) | exact eN _ (by omega) | exact Q0 _ _ (by omega) (by omega) | exact Q1 _ _ (by omega) (by omega)) | first | assumption | exact g1.2 _ _ _ rfl | exact eLt _ (by omega) | exact eN _ (by omega) | exact Q0 _ _ (by omega) (by omega) | exact Q1 _ _ (by omega) (by omega))) (k := ?_)
                  refine r_goto (t := 160) hm rfl (k := ?_)
                  refine r_iadd hm rfl (hr := (by omega)) (k := ?_)
                  refine r_iast (hm := hm) (hf := rfl) (h28 := (by omega)) (hs := (by first | assumption | exact (g1.1 _).trans rfl)) (kk := m - 1) (hi := by omega) (hn := (by omega)) (k := ?_)
                  refine r_aload_n hm rfl (k := ?_)
                  refine r_getR (hm := hm) (hf := rfl) (hd := rfl) (hs := (by first | assumption | exact (g1.1 _).trans rfl)) (hv := (by first | exact putI_eq | exact (putI_ne (by omega)).trans (by first | exact putI_eq | exact (putI_ne (by omega)).trans (by first | exact putI_eq | exact (putI_ne (by omega)).trans (by first | first | assumption | exact g1.2 _ _ _ rfl | exact eLt _ (by omega) | exact eN _ (by omega) | exact Q0 _ _ (by omega) (by omega) | exact Q1 _ _ (by omega) (by omega)) | first | assumption | exact g1.2 _ _ _ rfl | exact eLt _ (by omega) | exact eN _ (by omega) | exact Q0 _ _ (by omega) (by omega) | exact Q1 _ _ (by omega) (by omega)) | first | assumption | exact g1.2 _ _ _ rfl | exact eLt _ (by omega) | exact eN _ (by omega) | exact Q0 _ _ (by omega) (by omega) | exact Q1 _ _ (by omega) (by omega)) | first | assumption | exact g1.2 _ _ _ rfl | exact eLt _ (by omega) | exact eN _ (by omega) | exact Q0 _ _ (by omega) (by omega) | exact Q1 _ _ (by omega) (by omega))) (k := ?_)
                  refine r_bipush hm rfl (k := ?_)
                  refine r_iload_n hm rfl (k := ?_)
                  refine r_imul hm rfl (hr := (by omega)) (k := ?_)
                  refine r_iload hm rfl (k := ?_)
                  refine r_iadd hm rfl (hr := (by omega)) (k := ?_)
                  refine r_iload_n hm rfl (k := ?_)
                  refine r_iconst hm rfl (k := ?_)
                  refine r_isub hm rfl (hr := (by omega)) (k := ?_)
                  refine r_iast (hm := hm) (hf := rfl) (h28 := (by omega)) (hs := (by first | assumption | exact (g1.1 _).trans rfl)) (kk := 20 * i + k) (hi := by omega) (hn := (by omega)) (k := ?_)
                  refine r_iinc hm rfl (hr := (by omega)) (k := ?_)
                  refine r_goto (t := 8) hm rfl (k := ?_)
                  have eg : gp x i k = 0 := if_pos (Or.inl (by omega))
                  have en : nz x i k = x.2.2.1 1 i k := if_pos (by omega)
                  have e9 : lbN x lt i (k + 1) = (ln, fl + gp x i k + lt i k, upf nd ln (nd ln + nz x i k), upf lo k ln) := by
                    rw [show lbN x lt i (k + 1) = lb1 x lt i k (lbN x lt i k) from rfl, hst]
                    exact if_neg (fun z9 => by obtain ⟨z1, z2⟩ := z9; rw [eg] at z2; dsimp only at z2; omega)
                  have ei : (m - 1) = ln := by omega
                  refine ih (d - 1) (by omega) (k + 1) _ m ln (fl + 0 + lt i k) (upf nd ln (nd ln + nz x i k)) (upf lo k ln) _ _ _ _ (by omega) (e9.trans (by rw [eg])) (by omega) (Sm.put (Sm.put S1 (by omega)) (by omega)) (fun l hl9 => ?_) (fun k2 hk2 => ?_)
                  · simp (disch := omega) only [putI_fne, putI_feq, upf_ne, upf_eq]
                    rw [ei]
                    by_cases el : l = ln
                    · subst el
                      simp (disch := omega) only [putI_fne, putI_feq, upf_ne, upf_eq]
                      rw [en]
                    · simp (disch := omega) only [putI_fne, putI_feq, upf_ne, upf_eq]
                      exact eN l (by omega)
                  · simp (disch := omega) only [putI_fne, putI_feq, upf_ne, upf_eq]
                    by_cases ek : k2 = k
                    · subst ek
                      simp (disch := omega) only [putI_fne, putI_feq, upf_ne, upf_eq]
                      omega
                    · simp (disch := omega) only [putI_fne, putI_feq, upf_ne, upf_eq]
                      exact eO k2 (by omega)
              · exfalso; omega
            · exfalso; omega
          · refine r_iconst hm rfl (k := ?_)
            refine r_goto (t := 99) hm rfl (k := ?_)
            refine r_istore hm rfl (k := ?_)
            refine r_iload hm rfl (k := ?_)
            refine r_if_eq (t := 116) hm rfl rfl (fun c103 => ?_) (fun c103 => ?_)
            · exfalso; omega
            · refine r_aload_n hm rfl (k := ?_)
              refine r_getR (hm := hm) (hf := rfl) (hd := rfl) (hs := (by first | assumption | exact (g1.1 _).trans rfl)) (hv := (by first | exact putI_eq | exact (putI_ne (by omega)).trans (by first | exact putI_eq | exact (putI_ne (by omega)).trans (by first | exact putI_eq | exact (putI_ne (by omega)).trans (by first | first | assumption | exact g1.2 _ _ _ rfl | exact eLt _ (by omega) | exact eN _ (by omega) | exact Q0 _ _ (by omega) (by omega) | exact Q1 _ _ (by omega) (by omega)) | first | assumption | exact g1.2 _ _ _ rfl | exact eLt _ (by omega) | exact eN _ (by omega) | exact Q0 _ _ (by omega) (by omega) | exact Q1 _ _ (by omega) (by omega)) | first | assumption | exact g1.2 _ _ _ rfl | exact eLt _ (by omega) | exact eN _ (by omega) | exact Q0 _ _ (by omega) (by omega) | exact Q1 _ _ (by omega) (by omega)) | first | assumption | exact g1.2 _ _ _ rfl | exact eLt _ (by omega) | exact eN _ (by omega) | exact Q0 _ _ (by omega) (by omega) | exact Q1 _ _ (by omega) (by omega))) (k := ?_)
              refine r_iload_n hm rfl (k := ?_)
              refine r_iconst hm rfl (k := ?_)
              refine r_iast (hm := hm) (hf := rfl) (h28 := (by omega)) (hs := (by first | assumption | exact (g1.1 _).trans rfl)) (kk := m) (hi := by omega) (hn := (by omega)) (k := ?_)
              refine r_iinc hm rfl (hr := (by omega)) (k := ?_)
              refine RN.abs (fun h1 => Sm (fun a k => a = 1113 ∨ (a = 1104 ∧ 20 * i ≤ k ∧ k < 20 * i + 20)) h h1 ∧ (∀ l, l < m + 1 → h1.2.1 1113 l = nd l) ∧ (∀ k2, k2 < k → h1.2.1 1104 (20 * i + k2) = (lo k2 : Int))) ⟨Sm.put S1 (by omega), fun l hl9 => ?_, fun k2 hk2 => by rw [putI_ne (by omega)]; exact eO k2 hk2⟩ (fun h1 H9 => ?_)
              · by_cases el : l = m
                · subst el
                  rw [putI_eq]
                  
                  have e3 := b4 l (by omega)
                  exact e3.symm
                · rw [putI_ne (by omega)]
                  exact eN l (by omega)
              obtain ⟨S1, eN, eO⟩ := H9
              have g1 := S1.gg g
              have hc1 : h1.2.1 1085 12 = (c : Int) := (S1.2.2 _ _ (by omega)).trans hc
              have hR1 := S1.repM (fun a k q9 => by omega) hR
              obtain ⟨M0, M1, M2, M3, M4, Q0, Q1, Q2, S0, N0, N1⟩ := hR1.use
              have eLt : ∀ k, k < pcs x i → h1.2.1 1103 (1200 * r + 20 * i + k) = lt i k := fun k hk => (S1.2.2 _ _ (by omega)).trans (hLt k hk)
              refine r_iload hm rfl (k := ?_)
              refine r_if_eq (t := 126) hm rfl rfl (fun c118 => ?_) (fun c118 => ?_)
              · exfalso; omega
              · refine r_iload hm rfl (k := ?_)
                refine r_goto (t := 128) hm rfl (k := ?_)
                refine r_istore hm rfl (k := ?_)
                refine r_aload_n hm rfl (k := ?_)
                refine r_getR (hm := hm) (hf := rfl) (hd := rfl) (hs := (by first | assumption | exact (g1.1 _).trans rfl)) (hv := (by first | exact putI_eq | exact (putI_ne (by omega)).trans (by first | exact putI_eq | exact (putI_ne (by omega)).trans (by first | exact putI_eq | exact (putI_ne (by omega)).trans (by first | first | assumption | exact g1.2 _ _ _ rfl | exact eLt _ (by omega) | exact eN _ (by omega) | exact Q0 _ _ (by omega) (by omega) | exact Q1 _ _ (by omega) (by omega)) | first | assumption | exact g1.2 _ _ _ rfl | exact eLt _ (by omega) | exact eN _ (by omega) | exact Q0 _ _ (by omega) (by omega) | exact Q1 _ _ (by omega) (by omega)) | first | assumption | exact g1.2 _ _ _ rfl | exact eLt _ (by omega) | exact eN _ (by omega) | exact Q0 _ _ (by omega) (by omega) | exact Q1 _ _ (by omega) (by omega)) | first | assumption | exact g1.2 _ _ _ rfl | exact eLt _ (by omega) | exact eN _ (by omega) | exact Q0 _ _ (by omega) (by omega) | exact Q1 _ _ (by omega) (by omega))) (k := ?_)
                refine r_iload_n hm rfl (k := ?_)
                refine r_iconst hm rfl (k := ?_)
                refine r_isub hm rfl (hr := (by omega)) (k := ?_)
                refine r_dup2 hm rfl (k := ?_)
                refine r_iald (hm := hm) (hf := rfl) (hs := (by first | assumption | exact (g1.1 _).trans rfl)) (kk := m) (hi := by omega) (hn := (by omega)) (hv := (by first | exact putI_eq | exact (putI_ne (by omega)).trans (by first | exact putI_eq | exact (putI_ne (by omega)).trans (by first | exact putI_eq | exact (putI_ne (by omega)).trans (by first | first | assumption | exact g1.2 _ _ _ rfl | exact eLt _ (by omega) | exact eN _ (by omega) | exact Q0 _ _ (by omega) (by omega) | exact Q1 _ _ (by omega) (by omega)) | first | assumption | exact g1.2 _ _ _ rfl | exact eLt _ (by omega) | exact eN _ (by omega) | exact Q0 _ _ (by omega) (by omega) | exact Q1 _ _ (by omega) (by omega)) | first | assumption | exact g1.2 _ _ _ rfl | exact eLt _ (by omega) | exact eN _ (by omega) | exact Q0 _ _ (by omega) (by omega) | exact Q1 _ _ (by omega) (by omega)) | first | assumption | exact g1.2 _ _ _ rfl | exact eLt _ (by omega) | exact eN _ (by omega) | exact Q0 _ _ (by omega) (by omega) | exact Q1 _ _ (by omega) (by omega))) (k := ?_)
                refine r_iload hm rfl (k := ?_)
                refine r_if_eq (t := 159) hm rfl rfl (fun c141 => ?_) (fun c141 => ?_)
                · exfalso; omega
                · refine r_aload_n hm rfl (k := ?_)
                  refine r_getR (hm := hm) (hf := rfl) (hd := rfl) (hs := (by first | assumption | exact (g1.1 _).trans rfl)) (hv := (by first | exact putI_eq | exact (putI_ne (by omega)).trans (by first | exact putI_eq | exact (putI_ne (by omega)).trans (by first | exact putI_eq | exact (putI_ne (by omega)).trans (by first | first | assumption | exact g1.2 _ _ _ rfl | exact eLt _ (by omega) | exact eN _ (by omega) | exact Q0 _ _ (by omega) (by omega) | exact Q1 _ _ (by omega) (by omega)) | first | assumption | exact g1.2 _ _ _ rfl | exact eLt _ (by omega) | exact eN _ (by omega) | exact Q0 _ _ (by omega) (by omega) | exact Q1 _ _ (by omega) (by omega)) | first | assumption | exact g1.2 _ _ _ rfl | exact eLt _ (by omega) | exact eN _ (by omega) | exact Q0 _ _ (by omega) (by omega) | exact Q1 _ _ (by omega) (by omega)) | first | assumption | exact g1.2 _ _ _ rfl | exact eLt _ (by omega) | exact eN _ (by omega) | exact Q0 _ _ (by omega) (by omega) | exact Q1 _ _ (by omega) (by omega))) (k := ?_)
                  refine r_aload_n hm rfl (k := ?_)
                  refine r_iload_n hm rfl (k := ?_)
                  refine r_iload hm rfl (k := ?_)
                  refine r_callv (j2 := 186) hm rfl rfl rfl rfl rfl rfl (by first | assumption | exact (g1.1 _).trans rfl) (Nat.le_of_ble_eq_true rfl) (Nat.le_of_ble_eq_true rfl) rfl ⟨Nat.le_of_ble_eq_true rfl, Nat.le_of_ble_eq_true rfl, Nat.le_of_ble_eq_true rfl, Nat.le_of_ble_eq_true rfl, Nat.le_of_ble_eq_true rfl⟩ rfl (m_place g1 hc1 hc3 hR1 (i := i) (k := k) (by omega) (by omega)) (fun v9 h9 p9 => ?_)
                  obtain ⟨e1, e2⟩ := p9
                  subst e2
                  replace e1 := e1.symm
                  subst e1
                  change RN 192 155 _ _ _ 0 0 _
                  dsimp only [Option.toList, List.cons_append, List.nil_append]
                  refine r_iald (hm := hm) (hf := rfl) (hs := (by first | assumption | exact (g1.1 _).trans rfl)) (hi := rfl) (hn := (by omega)) (hv := (by first | exact putI_eq | exact (putI_ne (by omega)).trans (by first | exact putI_eq | exact (putI_ne (by omega)).trans (by first | exact putI_eq | exact (putI_ne (by omega)).trans (by first | first | assumption | exact g1.2 _ _ _ rfl | exact eLt _ (by omega) | exact eN _ (by omega) | exact Q0 _ _ (by omega) (by omega) | exact Q1 _ _ (by omega) (by omega)) | first | assumption | exact g1.2 _ _ _ rfl | exact eLt _ (by omega) | exact eN _ (by omega) | exact Q0 _ _ (by omega) (by omega) | exact Q1 _ _ (by omega) (by omega)) | first | assumption | exact g1.2 _ _ _ rfl | exact eLt _ (by omega) | exact eN _ (by omega) | exact Q0 _ _ (by omega) (by omega) | exact Q1 _ _ (by omega) (by omega)) | first | assumption | exact g1.2 _ _ _ rfl | exact eLt _ (by omega) | exact eN _ (by omega) | exact Q0 _ _ (by omega) (by omega) | exact Q1 _ _ (by omega) (by omega))) (k := ?_)
                  refine r_goto (t := 160) hm rfl (k := ?_)
                  refine r_iadd hm rfl (hr := (by omega)) (k := ?_)
                  refine r_iast (hm := hm) (hf := rfl) (h28 := (by omega)) (hs := (by first | assumption | exact (g1.1 _).trans rfl)) (kk := m) (hi := by omega) (hn := (by omega)) (k := ?_)
                  refine r_aload_n hm rfl (k := ?_)
                  refine r_getR (hm := hm) (hf := rfl) (hd := rfl) (hs := (by first | assumption | exact (g1.1 _).trans rfl)) (hv := (by first | exact putI_eq | exact (putI_ne (by omega)).trans (by first | exact putI_eq | exact (putI_ne (by omega)).trans (by first | exact putI_eq | exact (putI_ne (by omega)).trans (by first | first | assumption | exact g1.2 _ _ _ rfl | exact eLt _ (by omega) | exact eN _ (by omega) | exact Q0 _ _ (by omega) (by omega) | exact Q1 _ _ (by omega) (by omega)) | first | assumption | exact g1.2 _ _ _ rfl | exact eLt _ (by omega) | exact eN _ (by omega) | exact Q0 _ _ (by omega) (by omega) | exact Q1 _ _ (by omega) (by omega)) | first | assumption | exact g1.2 _ _ _ rfl | exact eLt _ (by omega) | exact eN _ (by omega) | exact Q0 _ _ (by omega) (by omega) | exact Q1 _ _ (by omega) (by omega)) | first | assumption | exact g1.2 _ _ _ rfl | exact eLt _ (by omega) | exact eN _ (by omega) | exact Q0 _ _ (by omega) (by omega) | exact Q1 _ _ (by omega) (by omega))) (k := ?_)
                  refine r_bipush hm rfl (k := ?_)
                  refine r_iload_n hm rfl (k := ?_)
                  refine r_imul hm rfl (hr := (by omega)) (k := ?_)
                  refine r_iload hm rfl (k := ?_)
                  refine r_iadd hm rfl (hr := (by omega)) (k := ?_)
                  refine r_iload_n hm rfl (k := ?_)
                  refine r_iconst hm rfl (k := ?_)
                  refine r_isub hm rfl (hr := (by omega)) (k := ?_)
                  refine r_iast (hm := hm) (hf := rfl) (h28 := (by omega)) (hs := (by first | assumption | exact (g1.1 _).trans rfl)) (kk := 20 * i + k) (hi := by omega) (hn := (by omega)) (k := ?_)
                  refine r_iinc hm rfl (hr := (by omega)) (k := ?_)
                  refine r_goto (t := 8) hm rfl (k := ?_)
                  have eg : gp x i k = 0 := if_pos (Or.inl (by omega))
                  have en : nz x i k = x.2.2.1 1 i k := if_pos (by omega)
                  have e9 : lbN x lt i (k + 1) = (ln + 1, lt i k, upf nd (ln + 1) (nd (ln + 1) + nz x i k), upf lo k (ln + 1)) := by
                    rw [show lbN x lt i (k + 1) = lb1 x lt i k (lbN x lt i k) from rfl, hst]
                    exact if_pos ⟨by omega, by rw [eg]; dsimp only; omega⟩
                  have ei : m = (ln + 1) := by omega
                  refine ih (d - 1) (by omega) (k + 1) _ (m + 1) (ln + 1) (lt i k) (upf nd (ln + 1) (nd (ln + 1) + nz x i k)) (upf lo k (ln + 1)) _ _ _ _ (by omega) e9 (by omega) (Sm.put (Sm.put S1 (by omega)) (by omega)) (fun l hl9 => ?_) (fun k2 hk2 => ?_)
                  · simp (disch := omega) only [putI_fne, putI_feq, upf_ne, upf_eq]
                    rw [ei]
                    by_cases el : l = (ln + 1)
                    · subst el
                      simp (disch := omega) only [putI_fne, putI_feq, upf_ne, upf_eq]
                      rw [en]
                    · simp (disch := omega) only [putI_fne, putI_feq, upf_ne, upf_eq]
                      exact eN l (by omega)
                  · simp (disch := omega) only [putI_fne, putI_feq, upf_ne, upf_eq]
                    by_cases ek : k2 = k
                    · subst ek
                      simp (disch := omega) only [putI_fne, putI_feq, upf_ne, upf_eq]
                      omega
                    · simp (disch := omega) only [putI_fne, putI_feq, upf_ne, upf_eq]
                      exact eO k2 (by omega)
