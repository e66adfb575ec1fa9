/-! lines come on pages -/
theorem upf_id {α : Type} {f : Nat → α} {i : Nat} : upf f i (f i) = f := funext (fun k => by
  unfold upf
  split
  · rename_i e; rw [e]
  · rfl)
theorem PgC.unse {h : Hp} {p : Nat} {x : Tx} {H : Int} {q : PS} {i : Nat} (hq : PgC h p x H (se q i)) (h0 : q.2.2.2.1 i = 0) (h1 : 1 ≤ q.1) : PgC h p x H q ∧ h.2.1 (p + 3) i = (q.1 : Int) := by
  obtain ⟨⟨v5, v6, v7, v8, vus, vfp, vlp, vwr⟩, vwl⟩ := hq
  have vl2 : ∀ k, upf q.2.2.2.1 i (q.1 : Int) k ≠ 0 → h.2.1 (p + 3) k = upf q.2.2.2.1 i (q.1 : Int) k := vlp
  refine ⟨⟨⟨v5, v6, v7, v8, vus, vfp, fun k hk => ?_, vwr⟩, vwl⟩, ?_⟩
  · have e : k ≠ i := fun e => by rw [e, h0] at hk; exact hk rfl
    have := vl2 k (by rw [upf_ne e]; exact hk)
    rw [upf_ne e] at this
    exact this
  · have := vl2 i (by rw [upf_eq]; omega)
    rw [upf_eq] at this
    exact this
theorem PgC.lpi {h : Hp} {p : Nat} {x : Tx} {H v : Int} {q : PS} {i : Nat} (hq : PgC h p x H q) (h0 : q.2.2.2.1 i = 0) : PgC (putI h (p + 3) i v) p x H q := by
  obtain ⟨⟨v5, v6, v7, v8, vus, vfp, vlp, vwr⟩, vwl⟩ := hq
  unfold PgC PgV
  simp (disch := omega) only [putI_fne, putI_feq, upf_ne, upf_eq]
  refine ⟨⟨v5, v6, v7, v8, vus, vfp, fun k hk => ?_, vwr⟩, vwl⟩
  have e : k ≠ i := fun e => by rw [e, h0] at hk; exact hk rfl
  rw [upf_ne e]
  exact vlp k hk
theorem PgC.same {S : Nat → Nat → Prop} {h h2 : Hp} {p : Nat} {x : Tx} {H : Int} {q : PS} (hq : PgC h p x H q) (m : Sm S h h2) (hS : ∀ a k, S a k → a < p ∨ p + 5 < a) : PgC h2 p x H q := by
  have e : ∀ a, p ≤ a → a ≤ p + 5 → h2.2.1 a = h.2.1 a := fun a h1 h3 => funext (fun k => m.2.2 a k (fun z => by have := hS a k z; omega))
  unfold PgC
  rw [e p (by omega) (by omega), e (p + 1) (by omega) (by omega), e (p + 2) (by omega) (by omega), e (p + 3) (by omega) (by omega), e (p + 4) (by omega) (by omega), e (p + 5) (by omega) (by omega)]
  exact hq
theorem PgM.same {S : Nat → Nat → Prop} {h h2 : Hp} {H : Int} {q : PS} (hq : PgM h H q) (m : Sm S h h2) (hS : ∀ a k, S a k → ¬ regW a k) : PgM h2 H q := by
  have e : ∀ a k, regW a k → h2.2.1 a k = h.2.1 a k := fun a k h1 => m.2.2 a k (fun z => hS a k z h1)
  have f : ∀ a, a = 1107 ∨ a = 1108 ∨ a = 1110 ∨ a = 1112 → h2.2.1 a = h.2.1 a := fun a h1 => funext (fun k => e a k (Or.inr h1))
  unfold PgM
  rw [f 1110 (by omega), f 1107 (by omega), f 1108 (by omega), f 1112 (by omega), e 1085 28 (by unfold regW; omega), e 1085 29 (by unfold regW; omega), e 1085 30 (by unfold regW; omega), e 1085 31 (by unfold regW; omega)]
  exact hq
theorem isS_P {s : Nat} (hS : isS s) : isP (s + 2) := by
  rcases hS with rfl | rfl
  · left; rfl
  · right; rfl
set_option maxRecDepth 8000 in
theorem c_layLines {L : Nat} {h : Hp} {s : Nat} {x : Tx} {H : Int} {q : PS} {T i nl : Nat} {nd : Nat → Int} (g : GG L h) (hS : isS s) (hH : 8 ≤ H ∧ H ≤ 60) (hq : PgC h (s + 2) x H q) (ok : PSok x T i q) (hT : T + nl ≤ 1200) (hi : i ≤ 59) (hnl : nl ≤ 60) (hd : okNd nd) (hln : h.2.1 (s + 9) i = (nl : Int)) (hnd : ∀ l, l < nl → h.2.1 (s + 12) l = nd l) : RN 69 0 [some (.inr (.inr (some (s + 1)))), some (.inl (i : Int)), none, none] [] h 0 0 (fun v h2 => Sm (fun a k => regP (s + 2) a k ∨ a = s + 13) h h2 ∧ PgC h2 (s + 2) x H (lls x H i nl nd q).1 ∧ (∀ l, l < nl → h2.2.1 (s + 13) l = (lls x H i nl nd q).2 l) ∧ v = none) := by
  have hm : mrec 69 = some nM69 := rfl
  obtain ⟨G1, G2, G8, G9, G10, G11, G12, G13, K0, K1, K2, K3, K4, K5, K6, S28, G21⟩ := g.ly hS
  refine r_aload_n hm rfl (k := ?_)
  refine r_getR (hm := hm) (hf := rfl) (hd := rfl) (hs := (by first | assumption | exact G1 | exact G2 | exact G8 | exact G9 | exact G12 | exact G13 | exact G5)) (hv := (by first | exact putI_eq | exact (putI_ne (by omega)).trans (by first | exact putI_eq | exact (putI_ne (by omega)).trans (by first | exact putI_eq | exact (putI_ne (by omega)).trans (by first | first | assumption | exact K0 | exact K2 | exact K5 | exact K6 | exact K9 | exact end_ _ (by omega)) | first | assumption | exact K0 | exact K2 | exact K5 | exact K6 | exact K9 | exact end_ _ (by omega)) | first | assumption | exact K0 | exact K2 | exact K5 | exact K6 | exact K9 | exact end_ _ (by omega)) | first | assumption | exact K0 | exact K2 | exact K5 | exact K6 | exact K9 | exact end_ _ (by omega))) (k := ?_)
  refine r_iload_n hm rfl (k := ?_)
  refine r_callv (j2 := 65) hm rfl rfl rfl rfl rfl rfl (by first | assumption | exact G1 | exact G2 | exact G8 | exact G9 | exact G12 | exact G13 | exact G5) (Nat.le_of_ble_eq_true rfl) (Nat.le_of_ble_eq_true rfl) rfl ⟨Nat.le_of_ble_eq_true rfl, Nat.le_of_ble_eq_true rfl, Nat.le_of_ble_eq_true rfl, Nat.le_of_ble_eq_true rfl, Nat.le_of_ble_eq_true rfl⟩ rfl (c_standHere g (isS_P hS) hH hq (ok.rng (by omega)) (by omega)) (fun v9 h9 p9 => ?_)
  obtain ⟨S1, hq1, e1⟩ : Sm (fun a k => regP (s + 2) a k ∨ a = s + 13) h h9 ∧ PgC h9 (s + 2) x H (se (sf q i) i) ∧ v9 = none := ⟨p9.1.mono (fun a k z => Or.inl z), p9.2.1, p9.2.2⟩
  subst e1
  have g1 := S1.gg g
  obtain ⟨G1, G2, G8, G9, G10, G11, G12, G13, K0, K1, K2, K3, K4, K5, K6, S28, G21⟩ := g1.ly hS
  have eln : _ = (nl : Int) := (S1.2.2 (s + 9) i (by unfold regP; omega)).trans hln
  have end_ := fun l hl9 => (S1.2.2 (s + 12) l (by unfold regP; omega)).trans (hnd l hl9)
  change RN 69 8 _ _ _ 0 0 _
  dsimp only [Option.toList, List.nil_append]
  refine r_iconst hm rfl (k := ?_)
  refine r_istore_n hm rfl (k := ?_)
  obtain ⟨hqa, hla⟩ := hq1.unse (q := sf q i) (ok.1.2.2.2.2.2.2.2.2.2 i (Nat.le_refl _)) ok.1.1
  suffices LP : ∀ (d l : Nat) (h1 : Hp) (z3 : Option Vl), l + d = nl → Sm (fun a k => regP (s + 2) a k ∨ a = s + 13) h h1 → PgC h1 (s + 2) x H (llN x H i nl nd q l).1 → h1.2.1 (s + 5) i = (((llN x H i nl nd q l).1).1 : Int) → (∀ k, k < l → h1.2.1 (s + 13) k = (llN x H i nl nd q l).2 k) → RN 69 10 [some (.inr (.inr (some (s + 1)))), some (.inl (i : Int)), some (.inl (l : Int)), z3] [] h1 0 0 (fun v h2 => Sm (fun a k => regP (s + 2) a k ∨ a = s + 13) h h2 ∧ PgC h2 (s + 2) x H (lls x H i nl nd q).1 ∧ (∀ l, l < nl → h2.2.1 (s + 13) l = (lls x H i nl nd q).2 l) ∧ v = none) from LP nl 0 _ _ (by omega) S1 hqa hla (fun k hk => by omega)
  clear hq hq1 hqa hla S1 g1 G1 G2 G8 G9 G10 G11 G12 G13 K0 K1 K2 K3 K4 K5 K6 eln end_
  refine fun d => Nat.strongRecOn d (fun d ih => ?_)
  intro l h1 z3 hl S1 hq hla eP
  have g1 := S1.gg g
  obtain ⟨G1, G2, G8, G9, G10, G11, G12, G13, K0, K1, K2, K3, K4, K5, K6, S28, G21⟩ := g1.ly hS
  have eln : _ = (nl : Int) := (S1.2.2 (s + 9) i (by unfold regP; omega)).trans hln
  have end_ := fun l hl9 => (S1.2.2 (s + 12) l (by unfold regP; omega)).trans (hnd l hl9)
  obtain ⟨a1, a2, a3⟩ := llN_ok (nl := nl) hH hi hd ok l
  have hdl := hd l
  have hd0 := hd 0
  have hd1 := hd 1
  refine r_iload_n hm rfl (k := ?_)
  refine r_aload_n hm rfl (k := ?_)
  refine r_getR (hm := hm) (hf := rfl) (hd := rfl) (hs := (by first | assumption | exact G1 | exact G2 | exact G8 | exact G9 | exact G12 | exact G13 | exact G5)) (hv := (by first | exact putI_eq | exact (putI_ne (by omega)).trans (by first | exact putI_eq | exact (putI_ne (by omega)).trans (by first | exact putI_eq | exact (putI_ne (by omega)).trans (by first | first | assumption | exact K0 | exact K2 | exact K5 | exact K6 | exact K9 | exact end_ _ (by omega)) | first | assumption | exact K0 | exact K2 | exact K5 | exact K6 | exact K9 | exact end_ _ (by omega)) | first | assumption | exact K0 | exact K2 | exact K5 | exact K6 | exact K9 | exact end_ _ (by omega)) | first | assumption | exact K0 | exact K2 | exact K5 | exact K6 | exact K9 | exact end_ _ (by omega))) (k := ?_)
  refine r_iload_n hm rfl (k := ?_)
  refine r_iald (hm := hm) (hf := rfl) (hs := (by first | assumption | exact G1 | exact G2 | exact G8 | exact G9 | exact G12 | exact G13 | exact G5)) (hi := rfl) (hn := (by omega)) (hv := (by first | exact putI_eq | exact (putI_ne (by omega)).trans (by first | exact putI_eq | exact (putI_ne (by omega)).trans (by first | exact putI_eq | exact (putI_ne (by omega)).trans (by first | first | assumption | exact K0 | exact K2 | exact K5 | exact K6 | exact K9 | exact end_ _ (by omega)) | first | assumption | exact K0 | exact K2 | exact K5 | exact K6 | exact K9 | exact end_ _ (by omega)) | first | assumption | exact K0 | exact K2 | exact K5 | exact K6 | exact K9 | exact end_ _ (by omega)) | first | assumption | exact K0 | exact K2 | exact K5 | exact K6 | exact K9 | exact end_ _ (by omega))) (k := ?_)
  refine r_icmp_ge (t := 139) hm rfl rfl (fun c17 => ?_) (fun c17 => ?_)
  · refine r_return hm rfl rfl (Nat.le_of_ble_eq_true rfl) (Nat.le_of_ble_eq_true rfl) ?_
    have el : l = nl := by omega
    subst el
    refine ⟨S1, ?_, eP, rfl⟩
    have c5 := a1.1.2.2.2.2.2.2.2.2.2 i (Nat.le_refl _)
    obtain ⟨⟨v5, v6, v7, v8, vus, vfp, vlp, vwr⟩, vwl⟩ := hq
    refine ⟨⟨v5, v6, v7, v8, vus, vfp, fun k hk => ?_, vwr⟩, vwl⟩
    have hk2 : upf ((llN x H i l nd q l).1).2.2.2.1 i (((llN x H i l nd q l).1).1 : Int) k ≠ 0 := hk
    show _ = upf ((llN x H i l nd q l).1).2.2.2.1 i (((llN x H i l nd q l).1).1 : Int) k
    by_cases e : k = i
    · rw [e, upf_eq]
      exact hla
    · rw [upf_ne e] at hk2 ⊢
      exact vlp k hk2
  · refine r_iload_n hm rfl (k := ?_)
    refine r_bipush hm rfl (k := ?_)
    refine r_icmp_ge (t := 139) hm rfl rfl (fun c23 => ?_) (fun c23 => ?_)
    · exfalso; omega
    · refine r_iload_n hm rfl (k := ?_)
      refine r_if_ne (t := 44) hm rfl rfl (fun c27 => ?_) (fun c27 => ?_)
      · refine r_iconst hm rfl (k := ?_)
        refine r_istore_n hm rfl (k := ?_)
        refine r_aload_n hm rfl (k := ?_)
        refine r_getR (hm := hm) (hf := rfl) (hd := rfl) (hs := (by first | assumption | exact G1 | exact G2 | exact G8 | exact G9 | exact G12 | exact G13 | exact G5)) (hv := (by first | exact putI_eq | exact (putI_ne (by omega)).trans (by first | exact putI_eq | exact (putI_ne (by omega)).trans (by first | exact putI_eq | exact (putI_ne (by omega)).trans (by first | first | assumption | exact K0 | exact K2 | exact K5 | exact K6 | exact K9 | exact end_ _ (by omega)) | first | assumption | exact K0 | exact K2 | exact K5 | exact K6 | exact K9 | exact end_ _ (by omega)) | first | assumption | exact K0 | exact K2 | exact K5 | exact K6 | exact K9 | exact end_ _ (by omega)) | first | assumption | exact K0 | exact K2 | exact K5 | exact K6 | exact K9 | exact end_ _ (by omega))) (k := ?_)
        refine r_iload_n hm rfl (k := ?_)
        refine r_if_eq (t := 70) hm rfl rfl (fun c51 => ?_) (fun c51 => ?_)
        · refine r_aload_n hm rfl (k := ?_)
          refine r_getR (hm := hm) (hf := rfl) (hd := rfl) (hs := (by first | assumption | exact G1 | exact G2 | exact G8 | exact G9 | exact G12 | exact G13 | exact G5)) (hv := (by first | exact putI_eq | exact (putI_ne (by omega)).trans (by first | exact putI_eq | exact (putI_ne (by omega)).trans (by first | exact putI_eq | exact (putI_ne (by omega)).trans (by first | first | assumption | exact K0 | exact K2 | exact K5 | exact K6 | exact K9 | exact end_ _ (by omega)) | first | assumption | exact K0 | exact K2 | exact K5 | exact K6 | exact K9 | exact end_ _ (by omega)) | first | assumption | exact K0 | exact K2 | exact K5 | exact K6 | exact K9 | exact end_ _ (by omega)) | first | assumption | exact K0 | exact K2 | exact K5 | exact K6 | exact K9 | exact end_ _ (by omega))) (k := ?_)
          refine r_iload_n hm rfl (k := ?_)
          refine r_iald (hm := hm) (hf := rfl) (hs := (by first | assumption | exact G1 | exact G2 | exact G8 | exact G9 | exact G12 | exact G13 | exact G5)) (hi := rfl) (hn := (by omega)) (hv := (by first | exact putI_eq | exact (putI_ne (by omega)).trans (by first | exact putI_eq | exact (putI_ne (by omega)).trans (by first | exact putI_eq | exact (putI_ne (by omega)).trans (by first | first | assumption | exact K0 | exact K2 | exact K5 | exact K6 | exact K9 | exact end_ _ (by omega)) | first | assumption | exact K0 | exact K2 | exact K5 | exact K6 | exact K9 | exact end_ _ (by omega)) | first | assumption | exact K0 | exact K2 | exact K5 | exact K6 | exact K9 | exact end_ _ (by omega)) | first | assumption | exact K0 | exact K2 | exact K5 | exact K6 | exact K9 | exact end_ _ (by omega))) (k := ?_)
          have en : (if l = 0 ∧ 1 < nl then nd 0 + nd 1 else nd l) = nd l := if_neg (by omega)
          have qm := c_makeRoom g1 (isS_P hS) hH hq a1 (by omega) (by omega) (n := nd l) (by omega)
          refine r_callv (j2 := 64) hm rfl rfl rfl rfl rfl rfl (by first | assumption | exact G1 | exact G2 | exact G8 | exact G9 | exact G12 | exact G13 | exact G5) (Nat.le_of_ble_eq_true rfl) (Nat.le_of_ble_eq_true rfl) rfl ⟨Nat.le_of_ble_eq_true rfl, Nat.le_of_ble_eq_true rfl, Nat.le_of_ble_eq_true rfl, Nat.le_of_ble_eq_true rfl, Nat.le_of_ble_eq_true rfl⟩ rfl (qm) (fun v9 hB p9 => ?_)
          obtain ⟨SB, hqB, e1⟩ := p9
          subst e1
          rw [← en] at hqB
          obtain ⟨c1, c2, c3⟩ := rm_ok (n := (if l = 0 ∧ 1 < nl then nd 0 + nd 1 else nd l)) hH hi a1
          have c4 := c1.rng (by omega)
          have c5 := c1.1.2.2.2.2.2.2.2.2.2 i (Nat.le_refl _)
          have SX : ∀ k, hB.2.1 (s + 13) k = h1.2.1 (s + 13) k := fun k => SB.2.2 _ _ (by unfold regP; omega)
          replace S1 : Sm (fun a k => regP (s + 2) a k ∨ a = s + 13) h hB := S1.trans (SB.mono (fun a k z => Or.inl z))
          have g1 := S1.gg g
          obtain ⟨G1, G2, G8, G9, G10, G11, G12, G13, K0, K1, K2, K3, K4, K5, K6, S28, G21⟩ := g1.ly hS
          have eln : _ = (nl : Int) := (S1.2.2 (s + 9) i (by unfold regP; omega)).trans hln
          have end_ := fun l hl9 => (S1.2.2 (s + 12) l (by unfold regP; omega)).trans (hnd l hl9)
          change RN 69 79 _ _ _ 0 0 _
          dsimp only [Option.toList, List.nil_append]
          refine r_iload_n hm rfl (k := ?_)
          refine r_if_ne (t := 91) hm rfl rfl (fun c80 => ?_) (fun c80 => ?_)
          · refine r_aload_n hm rfl (k := ?_)
            refine r_getR (hm := hm) (hf := rfl) (hd := rfl) (hs := (by first | assumption | exact G1 | exact G2 | exact G8 | exact G9 | exact G12 | exact G13 | exact G5)) (hv := (by first | exact putI_eq | exact (putI_ne (by omega)).trans (by first | exact putI_eq | exact (putI_ne (by omega)).trans (by first | exact putI_eq | exact (putI_ne (by omega)).trans (by first | first | assumption | exact K0 | exact K2 | exact K5 | exact K6 | exact K9 | exact end_ _ (by omega)) | first | assumption | exact K0 | exact K2 | exact K5 | exact K6 | exact K9 | exact end_ _ (by omega)) | first | assumption | exact K0 | exact K2 | exact K5 | exact K6 | exact K9 | exact end_ _ (by omega)) | first | assumption | exact K0 | exact K2 | exact K5 | exact K6 | exact K9 | exact end_ _ (by omega))) (k := ?_)
            refine r_aload_n hm rfl (k := ?_)
            refine r_getR (hm := hm) (hf := rfl) (hd := rfl) (hs := (by first | assumption | exact G1 | exact G2 | exact G8 | exact G9 | exact G12 | exact G13 | exact G5)) (hv := (by first | exact putI_eq | exact (putI_ne (by omega)).trans (by first | exact putI_eq | exact (putI_ne (by omega)).trans (by first | exact putI_eq | exact (putI_ne (by omega)).trans (by first | first | assumption | exact K0 | exact K2 | exact K5 | exact K6 | exact K9 | exact end_ _ (by omega)) | first | assumption | exact K0 | exact K2 | exact K5 | exact K6 | exact K9 | exact end_ _ (by omega)) | first | assumption | exact K0 | exact K2 | exact K5 | exact K6 | exact K9 | exact end_ _ (by omega)) | first | assumption | exact K0 | exact K2 | exact K5 | exact K6 | exact K9 | exact end_ _ (by omega))) (k := ?_)
            refine r_iload_n hm rfl (k := ?_)
            refine r_iald (hm := hm) (hf := rfl) (hs := (by first | assumption | exact G1 | exact G2 | exact G8 | exact G9 | exact G12 | exact G13 | exact G5)) (hi := rfl) (hn := (by omega)) (hv := (by first | exact putI_eq | exact (putI_ne (by omega)).trans (by first | exact putI_eq | exact (putI_ne (by omega)).trans (by first | exact putI_eq | exact (putI_ne (by omega)).trans (by first | first | assumption | exact K0 | exact K2 | exact K5 | exact K6 | exact K9 | exact end_ _ (by omega)) | first | assumption | exact K0 | exact K2 | exact K5 | exact K6 | exact K9 | exact end_ _ (by omega)) | first | assumption | exact K0 | exact K2 | exact K5 | exact K6 | exact K9 | exact end_ _ (by omega)) | first | assumption | exact K0 | exact K2 | exact K5 | exact K6 | exact K9 | exact end_ _ (by omega))) (k := ?_)
            refine r_callv (j2 := 66) hm rfl rfl rfl rfl rfl rfl (by first | assumption | exact G1 | exact G2 | exact G8 | exact G9 | exact G12 | exact G13 | exact G5) (Nat.le_of_ble_eq_true rfl) (Nat.le_of_ble_eq_true rfl) rfl ⟨Nat.le_of_ble_eq_true rfl, Nat.le_of_ble_eq_true rfl, Nat.le_of_ble_eq_true rfl, Nat.le_of_ble_eq_true rfl, Nat.le_of_ble_eq_true rfl⟩ rfl (c_take g1 (isS_P hS) hH hqB c4 (n := nd l) (by omega)) (fun v9 hE p9 => ?_)
            obtain ⟨SE, hqE, e1⟩ := p9
            subst e1
            replace SX : ∀ k, hE.2.1 (s + 13) k = h1.2.1 (s + 13) k := fun k => (SE.2.2 _ _ (by unfold regP; omega)).trans (SX k)
            replace S1 : Sm (fun a k => regP (s + 2) a k ∨ a = s + 13) h hE := S1.trans (SE.mono (fun a k z => Or.inl z))
            have g1 := S1.gg g
            obtain ⟨G1, G2, G8, G9, G10, G11, G12, G13, K0, K1, K2, K3, K4, K5, K6, S28, G21⟩ := g1.ly hS
            have eln : _ = (nl : Int) := (S1.2.2 (s + 9) i (by unfold regP; omega)).trans hln
            have end_ := fun l hl9 => (S1.2.2 (s + 12) l (by unfold regP; omega)).trans (hnd l hl9)
            have v5 := hqE.1.1
            have w5 : h.2.2.1 = hE.2.2.1 := by rw [S1.2.1]
            have K9 : hE.2.2.1 (s + 2) 2 = some (s + 2 + 3) := (g1.pg (isS_P hS)).2.2.2.2.2.2.2.2.1
            have G5 := (g1.pg (isS_P hS)).2.2.2.1
            change RN 69 104 _ _ _ 0 0 _
            dsimp only [Option.toList, List.nil_append]
            refine r_aload_n hm rfl (k := ?_)
            refine r_getR (hm := hm) (hf := rfl) (hd := rfl) (hs := (by first | assumption | exact G1 | exact G2 | exact G8 | exact G9 | exact G12 | exact G13 | exact G5)) (hv := (by first | exact putI_eq | exact (putI_ne (by omega)).trans (by first | exact putI_eq | exact (putI_ne (by omega)).trans (by first | exact putI_eq | exact (putI_ne (by omega)).trans (by first | first | assumption | exact K0 | exact K2 | exact K5 | exact K6 | exact K9 | exact end_ _ (by omega)) | first | assumption | exact K0 | exact K2 | exact K5 | exact K6 | exact K9 | exact end_ _ (by omega)) | first | assumption | exact K0 | exact K2 | exact K5 | exact K6 | exact K9 | exact end_ _ (by omega)) | first | assumption | exact K0 | exact K2 | exact K5 | exact K6 | exact K9 | exact end_ _ (by omega))) (k := ?_)
            refine r_iload_n hm rfl (k := ?_)
            refine r_aload_n hm rfl (k := ?_)
            refine r_getR (hm := hm) (hf := rfl) (hd := rfl) (hs := (by first | assumption | exact G1 | exact G2 | exact G8 | exact G9 | exact G12 | exact G13 | exact G5)) (hv := (by first | exact putI_eq | exact (putI_ne (by omega)).trans (by first | exact putI_eq | exact (putI_ne (by omega)).trans (by first | exact putI_eq | exact (putI_ne (by omega)).trans (by first | first | assumption | exact K0 | exact K2 | exact K5 | exact K6 | exact K9 | exact end_ _ (by omega)) | first | assumption | exact K0 | exact K2 | exact K5 | exact K6 | exact K9 | exact end_ _ (by omega)) | first | assumption | exact K0 | exact K2 | exact K5 | exact K6 | exact K9 | exact end_ _ (by omega)) | first | assumption | exact K0 | exact K2 | exact K5 | exact K6 | exact K9 | exact end_ _ (by omega))) (k := ?_)
            refine r_getI (hm := hm) (hf := rfl) (hd := rfl) (hs := (by first | assumption | exact G1 | exact G2 | exact G8 | exact G9 | exact G12 | exact G13 | exact G5)) (hv := (by first | exact putI_eq | exact (putI_ne (by omega)).trans (by first | exact putI_eq | exact (putI_ne (by omega)).trans (by first | exact putI_eq | exact (putI_ne (by omega)).trans (by first | first | assumption | exact K0 | exact K2 | exact K5 | exact K6 | exact K9 | exact end_ _ (by omega)) | first | assumption | exact K0 | exact K2 | exact K5 | exact K6 | exact K9 | exact end_ _ (by omega)) | first | assumption | exact K0 | exact K2 | exact K5 | exact K6 | exact K9 | exact end_ _ (by omega)) | first | assumption | exact K0 | exact K2 | exact K5 | exact K6 | exact K9 | exact end_ _ (by omega))) (k := ?_)
            refine r_iast (hm := hm) (hf := rfl) (h28 := (by omega)) (hs := (by first | assumption | exact G1 | exact G2 | exact G8 | exact G9 | exact G12 | exact G13 | exact G5)) (hi := rfl) (hn := (by omega)) (k := ?_)
            refine r_aload_n hm rfl (k := ?_)
            refine r_getR (hm := hm) (hf := rfl) (hd := rfl) (hs := (by first | assumption | exact G1 | exact G2 | exact G8 | exact G9 | exact G12 | exact G13 | exact G5)) (hv := (by first | exact putI_eq | exact (putI_ne (by omega)).trans (by first | exact putI_eq | exact (putI_ne (by omega)).trans (by first | exact putI_eq | exact (putI_ne (by omega)).trans (by first | first | assumption | exact K0 | exact K2 | exact K5 | exact K6 | exact K9 | exact end_ _ (by omega)) | first | assumption | exact K0 | exact K2 | exact K5 | exact K6 | exact K9 | exact end_ _ (by omega)) | first | assumption | exact K0 | exact K2 | exact K5 | exact K6 | exact K9 | exact end_ _ (by omega)) | first | assumption | exact K0 | exact K2 | exact K5 | exact K6 | exact K9 | exact end_ _ (by omega))) (k := ?_)
            refine r_getR (hm := hm) (hf := rfl) (hd := rfl) (hs := (by first | assumption | exact G1 | exact G2 | exact G8 | exact G9 | exact G12 | exact G13 | exact G5)) (hv := (by first | exact putI_eq | exact (putI_ne (by omega)).trans (by first | exact putI_eq | exact (putI_ne (by omega)).trans (by first | exact putI_eq | exact (putI_ne (by omega)).trans (by first | first | assumption | exact K0 | exact K2 | exact K5 | exact K6 | exact K9 | exact end_ _ (by omega)) | first | assumption | exact K0 | exact K2 | exact K5 | exact K6 | exact K9 | exact end_ _ (by omega)) | first | assumption | exact K0 | exact K2 | exact K5 | exact K6 | exact K9 | exact end_ _ (by omega)) | first | assumption | exact K0 | exact K2 | exact K5 | exact K6 | exact K9 | exact end_ _ (by omega))) (k := ?_)
            refine r_iload_n hm rfl (k := ?_)
            refine r_aload_n hm rfl (k := ?_)
            refine r_getR (hm := hm) (hf := rfl) (hd := rfl) (hs := (by first | assumption | exact G1 | exact G2 | exact G8 | exact G9 | exact G12 | exact G13 | exact G5)) (hv := (by first | exact putI_eq | exact (putI_ne (by omega)).trans (by first | exact putI_eq | exact (putI_ne (by omega)).trans (by first | exact putI_eq | exact (putI_ne (by omega)).trans (by first | first | assumption | exact K0 | exact K2 | exact K5 | exact K6 | exact K9 | exact end_ _ (by omega)) | first | assumption | exact K0 | exact K2 | exact K5 | exact K6 | exact K9 | exact end_ _ (by omega)) | first | assumption | exact K0 | exact K2 | exact K5 | exact K6 | exact K9 | exact end_ _ (by omega)) | first | assumption | exact K0 | exact K2 | exact K5 | exact K6 | exact K9 | exact end_ _ (by omega))) (k := ?_)
            refine r_getI (hm := hm) (hf := rfl) (hd := rfl) (hs := (by first | assumption | exact G1 | exact G2 | exact G8 | exact G9 | exact G12 | exact G13 | exact G5)) (hv := (by first | exact putI_eq | exact (putI_ne (by omega)).trans (by first | exact putI_eq | exact (putI_ne (by omega)).trans (by first | exact putI_eq | exact (putI_ne (by omega)).trans (by first | first | assumption | exact K0 | exact K2 | exact K5 | exact K6 | exact K9 | exact end_ _ (by omega)) | first | assumption | exact K0 | exact K2 | exact K5 | exact K6 | exact K9 | exact end_ _ (by omega)) | first | assumption | exact K0 | exact K2 | exact K5 | exact K6 | exact K9 | exact end_ _ (by omega)) | first | assumption | exact K0 | exact K2 | exact K5 | exact K6 | exact K9 | exact end_ _ (by omega))) (k := ?_)
            refine r_iast (hm := hm) (hf := rfl) (h28 := (by omega)) (hs := (by first | assumption | exact G1 | exact G2 | exact G8 | exact G9 | exact G12 | exact G13 | exact G5)) (hi := rfl) (hn := (by omega)) (k := ?_)
            refine r_iinc hm rfl (hr := (by omega)) (k := ?_)
            refine r_goto (t := 10) hm rfl (k := ?_)
            have e9 : llN x H i nl nd q (l + 1) = (tk (rm x H (if l = 0 ∧ 1 < nl then nd 0 + nd 1 else nd l) (llN x H i nl nd q l).1) (nd l), upf (llN x H i nl nd q l).2 l ((rm x H (if l = 0 ∧ 1 < nl then nd 0 + nd 1 else nd l) (llN x H i nl nd q l).1).1 : Int)) := by
              show ll1 x H i nl nd l (llN x H i nl nd q l) = _
              unfold ll1
              rw [if_neg (show ¬ l = 0 by omega)]
            refine ih (d - 1) (by omega) (l + 1) _ _ (by omega) (Sm.put (Sm.put S1 (by unfold regP; omega)) (by unfold regP; omega)) ?_ ?_ (fun k hk => ?_)
            · rw [e9]
              exact (hqE.same (Sm.put (S := fun a k => a = s + 13) Sm.refl rfl) (fun a k z => by omega)).lpi c5
            · rw [e9]
              exact putI_eq
            · rw [e9]
              simp (disch := omega) only [putI_fne, putI_feq, upf_ne, upf_eq]
              by_cases ek : k = l
              · subst ek
                simp (disch := omega) only [putI_fne, putI_feq, upf_ne, upf_eq]
                first | done | rfl
              · simp (disch := omega) only [putI_fne, putI_feq, upf_ne, upf_eq]
                rw [SX k]; exact eP k (by omega)
          · exfalso; omega
        · exfalso; omega
      · refine r_aload_n hm rfl (k := ?_)
        refine r_getR (hm := hm) (hf := rfl) (hd := rfl) (hs := (by first | assumption | exact G1 | exact G2 | exact G8 | exact G9 | exact G12 | exact G13 | exact G5)) (hv := (by first | exact putI_eq | exact (putI_ne (by omega)).trans (by first | exact putI_eq | exact (putI_ne (by omega)).trans (by first | exact putI_eq | exact (putI_ne (by omega)).trans (by first | first | assumption | exact K0 | exact K2 | exact K5 | exact K6 | exact K9 | exact end_ _ (by omega)) | first | assumption | exact K0 | exact K2 | exact K5 | exact K6 | exact K9 | exact end_ _ (by omega)) | first | assumption | exact K0 | exact K2 | exact K5 | exact K6 | exact K9 | exact end_ _ (by omega)) | first | assumption | exact K0 | exact K2 | exact K5 | exact K6 | exact K9 | exact end_ _ (by omega))) (k := ?_)
        refine r_iload_n hm rfl (k := ?_)
        refine r_iald (hm := hm) (hf := rfl) (hs := (by first | assumption | exact G1 | exact G2 | exact G8 | exact G9 | exact G12 | exact G13 | exact G5)) (hi := rfl) (hn := (by omega)) (hv := (by first | exact putI_eq | exact (putI_ne (by omega)).trans (by first | exact putI_eq | exact (putI_ne (by omega)).trans (by first | exact putI_eq | exact (putI_ne (by omega)).trans (by first | first | assumption | exact K0 | exact K2 | exact K5 | exact K6 | exact K9 | exact end_ _ (by omega)) | first | assumption | exact K0 | exact K2 | exact K5 | exact K6 | exact K9 | exact end_ _ (by omega)) | first | assumption | exact K0 | exact K2 | exact K5 | exact K6 | exact K9 | exact end_ _ (by omega)) | first | assumption | exact K0 | exact K2 | exact K5 | exact K6 | exact K9 | exact end_ _ (by omega))) (k := ?_)
        refine r_iconst hm rfl (k := ?_)
        refine r_icmp_le (t := 44) hm rfl rfl (fun c37 => ?_) (fun c37 => ?_)
        · refine r_iconst hm rfl (k := ?_)
          refine r_istore_n hm rfl (k := ?_)
          refine r_aload_n hm rfl (k := ?_)
          refine r_getR (hm := hm) (hf := rfl) (hd := rfl) (hs := (by first | assumption | exact G1 | exact G2 | exact G8 | exact G9 | exact G12 | exact G13 | exact G5)) (hv := (by first | exact putI_eq | exact (putI_ne (by omega)).trans (by first | exact putI_eq | exact (putI_ne (by omega)).trans (by first | exact putI_eq | exact (putI_ne (by omega)).trans (by first | first | assumption | exact K0 | exact K2 | exact K5 | exact K6 | exact K9 | exact end_ _ (by omega)) | first | assumption | exact K0 | exact K2 | exact K5 | exact K6 | exact K9 | exact end_ _ (by omega)) | first | assumption | exact K0 | exact K2 | exact K5 | exact K6 | exact K9 | exact end_ _ (by omega)) | first | assumption | exact K0 | exact K2 | exact K5 | exact K6 | exact K9 | exact end_ _ (by omega))) (k := ?_)
          refine r_iload_n hm rfl (k := ?_)
          refine r_if_eq (t := 70) hm rfl rfl (fun c51 => ?_) (fun c51 => ?_)
          · refine r_aload_n hm rfl (k := ?_)
            refine r_getR (hm := hm) (hf := rfl) (hd := rfl) (hs := (by first | assumption | exact G1 | exact G2 | exact G8 | exact G9 | exact G12 | exact G13 | exact G5)) (hv := (by first | exact putI_eq | exact (putI_ne (by omega)).trans (by first | exact putI_eq | exact (putI_ne (by omega)).trans (by first | exact putI_eq | exact (putI_ne (by omega)).trans (by first | first | assumption | exact K0 | exact K2 | exact K5 | exact K6 | exact K9 | exact end_ _ (by omega)) | first | assumption | exact K0 | exact K2 | exact K5 | exact K6 | exact K9 | exact end_ _ (by omega)) | first | assumption | exact K0 | exact K2 | exact K5 | exact K6 | exact K9 | exact end_ _ (by omega)) | first | assumption | exact K0 | exact K2 | exact K5 | exact K6 | exact K9 | exact end_ _ (by omega))) (k := ?_)
            refine r_iload_n hm rfl (k := ?_)
            refine r_iald (hm := hm) (hf := rfl) (hs := (by first | assumption | exact G1 | exact G2 | exact G8 | exact G9 | exact G12 | exact G13 | exact G5)) (hi := rfl) (hn := (by omega)) (hv := (by first | exact putI_eq | exact (putI_ne (by omega)).trans (by first | exact putI_eq | exact (putI_ne (by omega)).trans (by first | exact putI_eq | exact (putI_ne (by omega)).trans (by first | first | assumption | exact K0 | exact K2 | exact K5 | exact K6 | exact K9 | exact end_ _ (by omega)) | first | assumption | exact K0 | exact K2 | exact K5 | exact K6 | exact K9 | exact end_ _ (by omega)) | first | assumption | exact K0 | exact K2 | exact K5 | exact K6 | exact K9 | exact end_ _ (by omega)) | first | assumption | exact K0 | exact K2 | exact K5 | exact K6 | exact K9 | exact end_ _ (by omega))) (k := ?_)
            have en : (if l = 0 ∧ 1 < nl then nd 0 + nd 1 else nd l) = nd l := if_neg (by omega)
            have qm := c_makeRoom g1 (isS_P hS) hH hq a1 (by omega) (by omega) (n := nd l) (by omega)
            refine r_callv (j2 := 64) hm rfl rfl rfl rfl rfl rfl (by first | assumption | exact G1 | exact G2 | exact G8 | exact G9 | exact G12 | exact G13 | exact G5) (Nat.le_of_ble_eq_true rfl) (Nat.le_of_ble_eq_true rfl) rfl ⟨Nat.le_of_ble_eq_true rfl, Nat.le_of_ble_eq_true rfl, Nat.le_of_ble_eq_true rfl, Nat.le_of_ble_eq_true rfl, Nat.le_of_ble_eq_true rfl⟩ rfl (qm) (fun v9 hB p9 => ?_)
            obtain ⟨SB, hqB, e1⟩ := p9
            subst e1
            rw [← en] at hqB
            obtain ⟨c1, c2, c3⟩ := rm_ok (n := (if l = 0 ∧ 1 < nl then nd 0 + nd 1 else nd l)) hH hi a1
            have c4 := c1.rng (by omega)
            have c5 := c1.1.2.2.2.2.2.2.2.2.2 i (Nat.le_refl _)
            have SX : ∀ k, hB.2.1 (s + 13) k = h1.2.1 (s + 13) k := fun k => SB.2.2 _ _ (by unfold regP; omega)
            replace S1 : Sm (fun a k => regP (s + 2) a k ∨ a = s + 13) h hB := S1.trans (SB.mono (fun a k z => Or.inl z))
            have g1 := S1.gg g
            obtain ⟨G1, G2, G8, G9, G10, G11, G12, G13, K0, K1, K2, K3, K4, K5, K6, S28, G21⟩ := g1.ly hS
            have eln : _ = (nl : Int) := (S1.2.2 (s + 9) i (by unfold regP; omega)).trans hln
            have end_ := fun l hl9 => (S1.2.2 (s + 12) l (by unfold regP; omega)).trans (hnd l hl9)
            change RN 69 79 _ _ _ 0 0 _
            dsimp only [Option.toList, List.nil_append]
            refine r_iload_n hm rfl (k := ?_)
            refine r_if_ne (t := 91) hm rfl rfl (fun c80 => ?_) (fun c80 => ?_)
            · exfalso; omega
            · refine r_aload_n hm rfl (k := ?_)
              refine r_getR (hm := hm) (hf := rfl) (hd := rfl) (hs := (by first | assumption | exact G1 | exact G2 | exact G8 | exact G9 | exact G12 | exact G13 | exact G5)) (hv := (by first | exact putI_eq | exact (putI_ne (by omega)).trans (by first | exact putI_eq | exact (putI_ne (by omega)).trans (by first | exact putI_eq | exact (putI_ne (by omega)).trans (by first | first | assumption | exact K0 | exact K2 | exact K5 | exact K6 | exact K9 | exact end_ _ (by omega)) | first | assumption | exact K0 | exact K2 | exact K5 | exact K6 | exact K9 | exact end_ _ (by omega)) | first | assumption | exact K0 | exact K2 | exact K5 | exact K6 | exact K9 | exact end_ _ (by omega)) | first | assumption | exact K0 | exact K2 | exact K5 | exact K6 | exact K9 | exact end_ _ (by omega))) (k := ?_)
              refine r_iload_n hm rfl (k := ?_)
              refine r_callv (j2 := 65) hm rfl rfl rfl rfl rfl rfl (by first | assumption | exact G1 | exact G2 | exact G8 | exact G9 | exact G12 | exact G13 | exact G5) (Nat.le_of_ble_eq_true rfl) (Nat.le_of_ble_eq_true rfl) rfl ⟨Nat.le_of_ble_eq_true rfl, Nat.le_of_ble_eq_true rfl, Nat.le_of_ble_eq_true rfl, Nat.le_of_ble_eq_true rfl, Nat.le_of_ble_eq_true rfl⟩ rfl (c_standHere g1 (isS_P hS) hH hqB c4 (by omega)) (fun v9 hC p9 => ?_)
              obtain ⟨SC, hqC, e1⟩ := p9
              subst e1
              obtain ⟨hqD, -⟩ := hqC.unse (q := sf (rm x H (if l = 0 ∧ 1 < nl then nd 0 + nd 1 else nd l) (llN x H i nl nd q l).1) i) c5 c4.1
              replace SX : ∀ k, hC.2.1 (s + 13) k = h1.2.1 (s + 13) k := fun k => (SC.2.2 _ _ (by unfold regP; omega)).trans (SX k)
              replace S1 : Sm (fun a k => regP (s + 2) a k ∨ a = s + 13) h hC := S1.trans (SC.mono (fun a k z => Or.inl z))
              have g1 := S1.gg g
              obtain ⟨G1, G2, G8, G9, G10, G11, G12, G13, K0, K1, K2, K3, K4, K5, K6, S28, G21⟩ := g1.ly hS
              have eln : _ = (nl : Int) := (S1.2.2 (s + 9) i (by unfold regP; omega)).trans hln
              have end_ := fun l hl9 => (S1.2.2 (s + 12) l (by unfold regP; omega)).trans (hnd l hl9)
              change RN 69 91 _ _ _ 0 0 _
              dsimp only [Option.toList, List.nil_append]
              refine r_aload_n hm rfl (k := ?_)
              refine r_getR (hm := hm) (hf := rfl) (hd := rfl) (hs := (by first | assumption | exact G1 | exact G2 | exact G8 | exact G9 | exact G12 | exact G13 | exact G5)) (hv := (by first | exact putI_eq | exact (putI_ne (by omega)).trans (by first | exact putI_eq | exact (putI_ne (by omega)).trans (by first | exact putI_eq | exact (putI_ne (by omega)).trans (by first | first | assumption | exact K0 | exact K2 | exact K5 | exact K6 | exact K9 | exact end_ _ (by omega)) | first | assumption | exact K0 | exact K2 | exact K5 | exact K6 | exact K9 | exact end_ _ (by omega)) | first | assumption | exact K0 | exact K2 | exact K5 | exact K6 | exact K9 | exact end_ _ (by omega)) | first | assumption | exact K0 | exact K2 | exact K5 | exact K6 | exact K9 | exact end_ _ (by omega))) (k := ?_)
              refine r_aload_n hm rfl (k := ?_)
              refine r_getR (hm := hm) (hf := rfl) (hd := rfl) (hs := (by first | assumption | exact G1 | exact G2 | exact G8 | exact G9 | exact G12 | exact G13 | exact G5)) (hv := (by first | exact putI_eq | exact (putI_ne (by omega)).trans (by first | exact putI_eq | exact (putI_ne (by omega)).trans (by first | exact putI_eq | exact (putI_ne (by omega)).trans (by first | first | assumption | exact K0 | exact K2 | exact K5 | exact K6 | exact K9 | exact end_ _ (by omega)) | first | assumption | exact K0 | exact K2 | exact K5 | exact K6 | exact K9 | exact end_ _ (by omega)) | first | assumption | exact K0 | exact K2 | exact K5 | exact K6 | exact K9 | exact end_ _ (by omega)) | first | assumption | exact K0 | exact K2 | exact K5 | exact K6 | exact K9 | exact end_ _ (by omega))) (k := ?_)
              refine r_iload_n hm rfl (k := ?_)
              refine r_iald (hm := hm) (hf := rfl) (hs := (by first | assumption | exact G1 | exact G2 | exact G8 | exact G9 | exact G12 | exact G13 | exact G5)) (hi := rfl) (hn := (by omega)) (hv := (by first | exact putI_eq | exact (putI_ne (by omega)).trans (by first | exact putI_eq | exact (putI_ne (by omega)).trans (by first | exact putI_eq | exact (putI_ne (by omega)).trans (by first | first | assumption | exact K0 | exact K2 | exact K5 | exact K6 | exact K9 | exact end_ _ (by omega)) | first | assumption | exact K0 | exact K2 | exact K5 | exact K6 | exact K9 | exact end_ _ (by omega)) | first | assumption | exact K0 | exact K2 | exact K5 | exact K6 | exact K9 | exact end_ _ (by omega)) | first | assumption | exact K0 | exact K2 | exact K5 | exact K6 | exact K9 | exact end_ _ (by omega))) (k := ?_)
              refine r_callv (j2 := 66) hm rfl rfl rfl rfl rfl rfl (by first | assumption | exact G1 | exact G2 | exact G8 | exact G9 | exact G12 | exact G13 | exact G5) (Nat.le_of_ble_eq_true rfl) (Nat.le_of_ble_eq_true rfl) rfl ⟨Nat.le_of_ble_eq_true rfl, Nat.le_of_ble_eq_true rfl, Nat.le_of_ble_eq_true rfl, Nat.le_of_ble_eq_true rfl, Nat.le_of_ble_eq_true rfl⟩ rfl (c_take g1 (isS_P hS) hH hqD c4 (n := nd l) (by omega)) (fun v9 hE p9 => ?_)
              obtain ⟨SE, hqE, e1⟩ := p9
              subst e1
              replace SX : ∀ k, hE.2.1 (s + 13) k = h1.2.1 (s + 13) k := fun k => (SE.2.2 _ _ (by unfold regP; omega)).trans (SX k)
              replace S1 : Sm (fun a k => regP (s + 2) a k ∨ a = s + 13) h hE := S1.trans (SE.mono (fun a k z => Or.inl z))
              have g1 := S1.gg g
              obtain ⟨G1, G2, G8, G9, G10, G11, G12, G13, K0, K1, K2, K3, K4, K5, K6, S28, G21⟩ := g1.ly hS
              have eln : _ = (nl : Int) := (S1.2.2 (s + 9) i (by unfold regP; omega)).trans hln
              have end_ := fun l hl9 => (S1.2.2 (s + 12) l (by unfold regP; omega)).trans (hnd l hl9)
              have v5 := hqE.1.1
              have w5 : h.2.2.1 = hE.2.2.1 := by rw [S1.2.1]
              have K9 : hE.2.2.1 (s + 2) 2 = some (s + 2 + 3) := (g1.pg (isS_P hS)).2.2.2.2.2.2.2.2.1
              have G5 := (g1.pg (isS_P hS)).2.2.2.1
              change RN 69 104 _ _ _ 0 0 _
              dsimp only [Option.toList, List.nil_append]
              refine r_aload_n hm rfl (k := ?_)
              refine r_getR (hm := hm) (hf := rfl) (hd := rfl) (hs := (by first | assumption | exact G1 | exact G2 | exact G8 | exact G9 | exact G12 | exact G13 | exact G5)) (hv := (by first | exact putI_eq | exact (putI_ne (by omega)).trans (by first | exact putI_eq | exact (putI_ne (by omega)).trans (by first | exact putI_eq | exact (putI_ne (by omega)).trans (by first | first | assumption | exact K0 | exact K2 | exact K5 | exact K6 | exact K9 | exact end_ _ (by omega)) | first | assumption | exact K0 | exact K2 | exact K5 | exact K6 | exact K9 | exact end_ _ (by omega)) | first | assumption | exact K0 | exact K2 | exact K5 | exact K6 | exact K9 | exact end_ _ (by omega)) | first | assumption | exact K0 | exact K2 | exact K5 | exact K6 | exact K9 | exact end_ _ (by omega))) (k := ?_)
              refine r_iload_n hm rfl (k := ?_)
              refine r_aload_n hm rfl (k := ?_)
              refine r_getR (hm := hm) (hf := rfl) (hd := rfl) (hs := (by first | assumption | exact G1 | exact G2 | exact G8 | exact G9 | exact G12 | exact G13 | exact G5)) (hv := (by first | exact putI_eq | exact (putI_ne (by omega)).trans (by first | exact putI_eq | exact (putI_ne (by omega)).trans (by first | exact putI_eq | exact (putI_ne (by omega)).trans (by first | first | assumption | exact K0 | exact K2 | exact K5 | exact K6 | exact K9 | exact end_ _ (by omega)) | first | assumption | exact K0 | exact K2 | exact K5 | exact K6 | exact K9 | exact end_ _ (by omega)) | first | assumption | exact K0 | exact K2 | exact K5 | exact K6 | exact K9 | exact end_ _ (by omega)) | first | assumption | exact K0 | exact K2 | exact K5 | exact K6 | exact K9 | exact end_ _ (by omega))) (k := ?_)
              refine r_getI (hm := hm) (hf := rfl) (hd := rfl) (hs := (by first | assumption | exact G1 | exact G2 | exact G8 | exact G9 | exact G12 | exact G13 | exact G5)) (hv := (by first | exact putI_eq | exact (putI_ne (by omega)).trans (by first | exact putI_eq | exact (putI_ne (by omega)).trans (by first | exact putI_eq | exact (putI_ne (by omega)).trans (by first | first | assumption | exact K0 | exact K2 | exact K5 | exact K6 | exact K9 | exact end_ _ (by omega)) | first | assumption | exact K0 | exact K2 | exact K5 | exact K6 | exact K9 | exact end_ _ (by omega)) | first | assumption | exact K0 | exact K2 | exact K5 | exact K6 | exact K9 | exact end_ _ (by omega)) | first | assumption | exact K0 | exact K2 | exact K5 | exact K6 | exact K9 | exact end_ _ (by omega))) (k := ?_)
              refine r_iast (hm := hm) (hf := rfl) (h28 := (by omega)) (hs := (by first | assumption | exact G1 | exact G2 | exact G8 | exact G9 | exact G12 | exact G13 | exact G5)) (hi := rfl) (hn := (by omega)) (k := ?_)
              refine r_aload_n hm rfl (k := ?_)
              refine r_getR (hm := hm) (hf := rfl) (hd := rfl) (hs := (by first | assumption | exact G1 | exact G2 | exact G8 | exact G9 | exact G12 | exact G13 | exact G5)) (hv := (by first | exact putI_eq | exact (putI_ne (by omega)).trans (by first | exact putI_eq | exact (putI_ne (by omega)).trans (by first | exact putI_eq | exact (putI_ne (by omega)).trans (by first | first | assumption | exact K0 | exact K2 | exact K5 | exact K6 | exact K9 | exact end_ _ (by omega)) | first | assumption | exact K0 | exact K2 | exact K5 | exact K6 | exact K9 | exact end_ _ (by omega)) | first | assumption | exact K0 | exact K2 | exact K5 | exact K6 | exact K9 | exact end_ _ (by omega)) | first | assumption | exact K0 | exact K2 | exact K5 | exact K6 | exact K9 | exact end_ _ (by omega))) (k := ?_)
              refine r_getR (hm := hm) (hf := rfl) (hd := rfl) (hs := (by first | assumption | exact G1 | exact G2 | exact G8 | exact G9 | exact G12 | exact G13 | exact G5)) (hv := (by first | exact putI_eq | exact (putI_ne (by omega)).trans (by first | exact putI_eq | exact (putI_ne (by omega)).trans (by first | exact putI_eq | exact (putI_ne (by omega)).trans (by first | first | assumption | exact K0 | exact K2 | exact K5 | exact K6 | exact K9 | exact end_ _ (by omega)) | first | assumption | exact K0 | exact K2 | exact K5 | exact K6 | exact K9 | exact end_ _ (by omega)) | first | assumption | exact K0 | exact K2 | exact K5 | exact K6 | exact K9 | exact end_ _ (by omega)) | first | assumption | exact K0 | exact K2 | exact K5 | exact K6 | exact K9 | exact end_ _ (by omega))) (k := ?_)
              refine r_iload_n hm rfl (k := ?_)
              refine r_aload_n hm rfl (k := ?_)
              refine r_getR (hm := hm) (hf := rfl) (hd := rfl) (hs := (by first | assumption | exact G1 | exact G2 | exact G8 | exact G9 | exact G12 | exact G13 | exact G5)) (hv := (by first | exact putI_eq | exact (putI_ne (by omega)).trans (by first | exact putI_eq | exact (putI_ne (by omega)).trans (by first | exact putI_eq | exact (putI_ne (by omega)).trans (by first | first | assumption | exact K0 | exact K2 | exact K5 | exact K6 | exact K9 | exact end_ _ (by omega)) | first | assumption | exact K0 | exact K2 | exact K5 | exact K6 | exact K9 | exact end_ _ (by omega)) | first | assumption | exact K0 | exact K2 | exact K5 | exact K6 | exact K9 | exact end_ _ (by omega)) | first | assumption | exact K0 | exact K2 | exact K5 | exact K6 | exact K9 | exact end_ _ (by omega))) (k := ?_)
              refine r_getI (hm := hm) (hf := rfl) (hd := rfl) (hs := (by first | assumption | exact G1 | exact G2 | exact G8 | exact G9 | exact G12 | exact G13 | exact G5)) (hv := (by first | exact putI_eq | exact (putI_ne (by omega)).trans (by first | exact putI_eq | exact (putI_ne (by omega)).trans (by first | exact putI_eq | exact (putI_ne (by omega)).trans (by first | first | assumption | exact K0 | exact K2 | exact K5 | exact K6 | exact K9 | exact end_ _ (by omega)) | first | assumption | exact K0 | exact K2 | exact K5 | exact K6 | exact K9 | exact end_ _ (by omega)) | first | assumption | exact K0 | exact K2 | exact K5 | exact K6 | exact K9 | exact end_ _ (by omega)) | first | assumption | exact K0 | exact K2 | exact K5 | exact K6 | exact K9 | exact end_ _ (by omega))) (k := ?_)
              refine r_iast (hm := hm) (hf := rfl) (h28 := (by omega)) (hs := (by first | assumption | exact G1 | exact G2 | exact G8 | exact G9 | exact G12 | exact G13 | exact G5)) (hi := rfl) (hn := (by omega)) (k := ?_)
              refine r_iinc hm rfl (hr := (by omega)) (k := ?_)
              refine r_goto (t := 10) hm rfl (k := ?_)
              have e9 : llN x H i nl nd q (l + 1) = (tk (sf (rm x H (if l = 0 ∧ 1 < nl then nd 0 + nd 1 else nd l) (llN x H i nl nd q l).1) i) (nd l), upf (llN x H i nl nd q l).2 l ((rm x H (if l = 0 ∧ 1 < nl then nd 0 + nd 1 else nd l) (llN x H i nl nd q l).1).1 : Int)) := by
                show ll1 x H i nl nd l (llN x H i nl nd q l) = _
                unfold ll1
                rw [if_pos (show l = 0 by omega)]
              refine ih (d - 1) (by omega) (l + 1) _ _ (by omega) (Sm.put (Sm.put S1 (by unfold regP; omega)) (by unfold regP; omega)) ?_ ?_ (fun k hk => ?_)
              · rw [e9]
                exact (hqE.same (Sm.put (S := fun a k => a = s + 13) Sm.refl rfl) (fun a k z => by omega)).lpi c5
              · rw [e9]
                exact putI_eq
              · rw [e9]
                simp (disch := omega) only [putI_fne, putI_feq, upf_ne, upf_eq]
                by_cases ek : k = l
                · subst ek
                  simp (disch := omega) only [putI_fne, putI_feq, upf_ne, upf_eq]
                  first | done | rfl
                · simp (disch := omega) only [putI_fne, putI_feq, upf_ne, upf_eq]
                  rw [SX k]; exact eP k (by omega)
          · exfalso; omega
        · refine r_iconst hm rfl (k := ?_)
          refine r_goto (t := 45) hm rfl (k := ?_)
          refine r_istore_n hm rfl (k := ?_)
          refine r_aload_n hm rfl (k := ?_)
          refine r_getR (hm := hm) (hf := rfl) (hd := rfl) (hs := (by first | assumption | exact G1 | exact G2 | exact G8 | exact G9 | exact G12 | exact G13 | exact G5)) (hv := (by first | exact putI_eq | exact (putI_ne (by omega)).trans (by first | exact putI_eq | exact (putI_ne (by omega)).trans (by first | exact putI_eq | exact (putI_ne (by omega)).trans (by first | first | assumption | exact K0 | exact K2 | exact K5 | exact K6 | exact K9 | exact end_ _ (by omega)) | first | assumption | exact K0 | exact K2 | exact K5 | exact K6 | exact K9 | exact end_ _ (by omega)) | first | assumption | exact K0 | exact K2 | exact K5 | exact K6 | exact K9 | exact end_ _ (by omega)) | first | assumption | exact K0 | exact K2 | exact K5 | exact K6 | exact K9 | exact end_ _ (by omega))) (k := ?_)
          refine r_iload_n hm rfl (k := ?_)
          refine r_if_eq (t := 70) hm rfl rfl (fun c51 => ?_) (fun c51 => ?_)
          · exfalso; omega
          · refine r_aload_n hm rfl (k := ?_)
            refine r_getR (hm := hm) (hf := rfl) (hd := rfl) (hs := (by first | assumption | exact G1 | exact G2 | exact G8 | exact G9 | exact G12 | exact G13 | exact G5)) (hv := (by first | exact putI_eq | exact (putI_ne (by omega)).trans (by first | exact putI_eq | exact (putI_ne (by omega)).trans (by first | exact putI_eq | exact (putI_ne (by omega)).trans (by first | first | assumption | exact K0 | exact K2 | exact K5 | exact K6 | exact K9 | exact end_ _ (by omega)) | first | assumption | exact K0 | exact K2 | exact K5 | exact K6 | exact K9 | exact end_ _ (by omega)) | first | assumption | exact K0 | exact K2 | exact K5 | exact K6 | exact K9 | exact end_ _ (by omega)) | first | assumption | exact K0 | exact K2 | exact K5 | exact K6 | exact K9 | exact end_ _ (by omega))) (k := ?_)
            refine r_iconst hm rfl (k := ?_)
            refine r_iald (hm := hm) (hf := rfl) (hs := (by first | assumption | exact G1 | exact G2 | exact G8 | exact G9 | exact G12 | exact G13 | exact G5)) (kk := 0) (hi := by omega) (hn := (by omega)) (hv := (by first | exact putI_eq | exact (putI_ne (by omega)).trans (by first | exact putI_eq | exact (putI_ne (by omega)).trans (by first | exact putI_eq | exact (putI_ne (by omega)).trans (by first | first | assumption | exact K0 | exact K2 | exact K5 | exact K6 | exact K9 | exact end_ _ (by omega)) | first | assumption | exact K0 | exact K2 | exact K5 | exact K6 | exact K9 | exact end_ _ (by omega)) | first | assumption | exact K0 | exact K2 | exact K5 | exact K6 | exact K9 | exact end_ _ (by omega)) | first | assumption | exact K0 | exact K2 | exact K5 | exact K6 | exact K9 | exact end_ _ (by omega))) (k := ?_)
            refine r_aload_n hm rfl (k := ?_)
            refine r_getR (hm := hm) (hf := rfl) (hd := rfl) (hs := (by first | assumption | exact G1 | exact G2 | exact G8 | exact G9 | exact G12 | exact G13 | exact G5)) (hv := (by first | exact putI_eq | exact (putI_ne (by omega)).trans (by first | exact putI_eq | exact (putI_ne (by omega)).trans (by first | exact putI_eq | exact (putI_ne (by omega)).trans (by first | first | assumption | exact K0 | exact K2 | exact K5 | exact K6 | exact K9 | exact end_ _ (by omega)) | first | assumption | exact K0 | exact K2 | exact K5 | exact K6 | exact K9 | exact end_ _ (by omega)) | first | assumption | exact K0 | exact K2 | exact K5 | exact K6 | exact K9 | exact end_ _ (by omega)) | first | assumption | exact K0 | exact K2 | exact K5 | exact K6 | exact K9 | exact end_ _ (by omega))) (k := ?_)
            refine r_iconst hm rfl (k := ?_)
            refine r_iald (hm := hm) (hf := rfl) (hs := (by first | assumption | exact G1 | exact G2 | exact G8 | exact G9 | exact G12 | exact G13 | exact G5)) (kk := 1) (hi := by omega) (hn := (by omega)) (hv := (by first | exact putI_eq | exact (putI_ne (by omega)).trans (by first | exact putI_eq | exact (putI_ne (by omega)).trans (by first | exact putI_eq | exact (putI_ne (by omega)).trans (by first | first | assumption | exact K0 | exact K2 | exact K5 | exact K6 | exact K9 | exact end_ _ (by omega)) | first | assumption | exact K0 | exact K2 | exact K5 | exact K6 | exact K9 | exact end_ _ (by omega)) | first | assumption | exact K0 | exact K2 | exact K5 | exact K6 | exact K9 | exact end_ _ (by omega)) | first | assumption | exact K0 | exact K2 | exact K5 | exact K6 | exact K9 | exact end_ _ (by omega))) (k := ?_)
            refine r_iadd hm rfl (hr := (by omega)) (k := ?_)
            refine r_goto (t := 76) hm rfl (k := ?_)
            have en : (if l = 0 ∧ 1 < nl then nd 0 + nd 1 else nd l) = nd 0 + nd 1 := if_pos (by omega)
            have qm := c_makeRoom g1 (isS_P hS) hH hq a1 (by omega) (by omega) (n := nd 0 + nd 1) (by omega)
            refine r_callv (j2 := 64) hm rfl rfl rfl rfl rfl rfl (by first | assumption | exact G1 | exact G2 | exact G8 | exact G9 | exact G12 | exact G13 | exact G5) (Nat.le_of_ble_eq_true rfl) (Nat.le_of_ble_eq_true rfl) rfl ⟨Nat.le_of_ble_eq_true rfl, Nat.le_of_ble_eq_true rfl, Nat.le_of_ble_eq_true rfl, Nat.le_of_ble_eq_true rfl, Nat.le_of_ble_eq_true rfl⟩ rfl (qm) (fun v9 hB p9 => ?_)
            obtain ⟨SB, hqB, e1⟩ := p9
            subst e1
            rw [← en] at hqB
            obtain ⟨c1, c2, c3⟩ := rm_ok (n := (if l = 0 ∧ 1 < nl then nd 0 + nd 1 else nd l)) hH hi a1
            have c4 := c1.rng (by omega)
            have c5 := c1.1.2.2.2.2.2.2.2.2.2 i (Nat.le_refl _)
            have SX : ∀ k, hB.2.1 (s + 13) k = h1.2.1 (s + 13) k := fun k => SB.2.2 _ _ (by unfold regP; omega)
            replace S1 : Sm (fun a k => regP (s + 2) a k ∨ a = s + 13) h hB := S1.trans (SB.mono (fun a k z => Or.inl z))
            have g1 := S1.gg g
            obtain ⟨G1, G2, G8, G9, G10, G11, G12, G13, K0, K1, K2, K3, K4, K5, K6, S28, G21⟩ := g1.ly hS
            have eln : _ = (nl : Int) := (S1.2.2 (s + 9) i (by unfold regP; omega)).trans hln
            have end_ := fun l hl9 => (S1.2.2 (s + 12) l (by unfold regP; omega)).trans (hnd l hl9)
            change RN 69 79 _ _ _ 0 0 _
            dsimp only [Option.toList, List.nil_append]
            refine r_iload_n hm rfl (k := ?_)
            refine r_if_ne (t := 91) hm rfl rfl (fun c80 => ?_) (fun c80 => ?_)
            · exfalso; omega
            · refine r_aload_n hm rfl (k := ?_)
              refine r_getR (hm := hm) (hf := rfl) (hd := rfl) (hs := (by first | assumption | exact G1 | exact G2 | exact G8 | exact G9 | exact G12 | exact G13 | exact G5)) (hv := (by first | exact putI_eq | exact (putI_ne (by omega)).trans (by first | exact putI_eq | exact (putI_ne (by omega)).trans (by first | exact putI_eq | exact (putI_ne (by omega)).trans (by first | first | assumption | exact K0 | exact K2 | exact K5 | exact K6 | exact K9 | exact end_ _ (by omega)) | first | assumption | exact K0 | exact K2 | exact K5 | exact K6 | exact K9 | exact end_ _ (by omega)) | first | assumption | exact K0 | exact K2 | exact K5 | exact K6 | exact K9 | exact end_ _ (by omega)) | first | assumption | exact K0 | exact K2 | exact K5 | exact K6 | exact K9 | exact end_ _ (by omega))) (k := ?_)
              refine r_iload_n hm rfl (k := ?_)
              refine r_callv (j2 := 65) hm rfl rfl rfl rfl rfl rfl (by first | assumption | exact G1 | exact G2 | exact G8 | exact G9 | exact G12 | exact G13 | exact G5) (Nat.le_of_ble_eq_true rfl) (Nat.le_of_ble_eq_true rfl) rfl ⟨Nat.le_of_ble_eq_true rfl, Nat.le_of_ble_eq_true rfl, Nat.le_of_ble_eq_true rfl, Nat.le_of_ble_eq_true rfl, Nat.le_of_ble_eq_true rfl⟩ rfl (c_standHere g1 (isS_P hS) hH hqB c4 (by omega)) (fun v9 hC p9 => ?_)
              obtain ⟨SC, hqC, e1⟩ := p9
              subst e1
              obtain ⟨hqD, -⟩ := hqC.unse (q := sf (rm x H (if l = 0 ∧ 1 < nl then nd 0 + nd 1 else nd l) (llN x H i nl nd q l).1) i) c5 c4.1
              replace SX : ∀ k, hC.2.1 (s + 13) k = h1.2.1 (s + 13) k := fun k => (SC.2.2 _ _ (by unfold regP; omega)).trans (SX k)
              replace S1 : Sm (fun a k => regP (s + 2) a k ∨ a = s + 13) h hC := S1.trans (SC.mono (fun a k z => Or.inl z))
              have g1 := S1.gg g
              obtain ⟨G1, G2, G8, G9, G10, G11, G12, G13, K0, K1, K2, K3, K4, K5, K6, S28, G21⟩ := g1.ly hS
              have eln : _ = (nl : Int) := (S1.2.2 (s + 9) i (by unfold regP; omega)).trans hln
              have end_ := fun l hl9 => (S1.2.2 (s + 12) l (by unfold regP; omega)).trans (hnd l hl9)
              change RN 69 91 _ _ _ 0 0 _
              dsimp only [Option.toList, List.nil_append]
              refine r_aload_n hm rfl (k := ?_)
              refine r_getR (hm := hm) (hf := rfl) (hd := rfl) (hs := (by first | assumption | exact G1 | exact G2 | exact G8 | exact G9 | exact G12 | exact G13 | exact G5)) (hv := (by first | exact putI_eq | exact (putI_ne (by omega)).trans (by first | exact putI_eq | exact (putI_ne (by omega)).trans (by first | exact putI_eq | exact (putI_ne (by omega)).trans (by first | first | assumption | exact K0 | exact K2 | exact K5 | exact K6 | exact K9 | exact end_ _ (by omega)) | first | assumption | exact K0 | exact K2 | exact K5 | exact K6 | exact K9 | exact end_ _ (by omega)) | first | assumption | exact K0 | exact K2 | exact K5 | exact K6 | exact K9 | exact end_ _ (by omega)) | first | assumption | exact K0 | exact K2 | exact K5 | exact K6 | exact K9 | exact end_ _ (by omega))) (k := ?_)
              refine r_aload_n hm rfl (k := ?_)
              refine r_getR (hm := hm) (hf := rfl) (hd := rfl) (hs := (by first | assumption | exact G1 | exact G2 | exact G8 | exact G9 | exact G12 | exact G13 | exact G5)) (hv := (by first | exact putI_eq | exact (putI_ne (by omega)).trans (by first | exact putI_eq | exact (putI_ne (by omega)).trans (by first | exact putI_eq | exact (putI_ne (by omega)).trans (by first | first | assumption | exact K0 | exact K2 | exact K5 | exact K6 | exact K9 | exact end_ _ (by omega)) | first | assumption | exact K0 | exact K2 | exact K5 | exact K6 | exact K9 | exact end_ _ (by omega)) | first | assumption | exact K0 | exact K2 | exact K5 | exact K6 | exact K9 | exact end_ _ (by omega)) | first | assumption | exact K0 | exact K2 | exact K5 | exact K6 | exact K9 | exact end_ _ (by omega))) (k := ?_)
              refine r_iload_n hm rfl (k := ?_)
              refine r_iald (hm := hm) (hf := rfl) (hs := (by first | assumption | exact G1 | exact G2 | exact G8 | exact G9 | exact G12 | exact G13 | exact G5)) (hi := rfl) (hn := (by omega)) (hv := (by first | exact putI_eq | exact (putI_ne (by omega)).trans (by first | exact putI_eq | exact (putI_ne (by omega)).trans (by first | exact putI_eq | exact (putI_ne (by omega)).trans (by first | first | assumption | exact K0 | exact K2 | exact K5 | exact K6 | exact K9 | exact end_ _ (by omega)) | first | assumption | exact K0 | exact K2 | exact K5 | exact K6 | exact K9 | exact end_ _ (by omega)) | first | assumption | exact K0 | exact K2 | exact K5 | exact K6 | exact K9 | exact end_ _ (by omega)) | first | assumption | exact K0 | exact K2 | exact K5 | exact K6 | exact K9 | exact end_ _ (by omega))) (k := ?_)
              refine r_callv (j2 := 66) hm rfl rfl rfl rfl rfl rfl (by first | assumption | exact G1 | exact G2 | exact G8 | exact G9 | exact G12 | exact G13 | exact G5) (Nat.le_of_ble_eq_true rfl) (Nat.le_of_ble_eq_true rfl) rfl ⟨Nat.le_of_ble_eq_true rfl, Nat.le_of_ble_eq_true rfl, Nat.le_of_ble_eq_true rfl, Nat.le_of_ble_eq_true rfl, Nat.le_of_ble_eq_true rfl⟩ rfl (c_take g1 (isS_P hS) hH hqD c4 (n := nd l) (by omega)) (fun v9 hE p9 => ?_)
              obtain ⟨SE, hqE, e1⟩ := p9
              subst e1
              replace SX : ∀ k, hE.2.1 (s + 13) k = h1.2.1 (s + 13) k := fun k => (SE.2.2 _ _ (by unfold regP; omega)).trans (SX k)
              replace S1 : Sm (fun a k => regP (s + 2) a k ∨ a = s + 13) h hE := S1.trans (SE.mono (fun a k z => Or.inl z))
              have g1 := S1.gg g
              obtain ⟨G1, G2, G8, G9, G10, G11, G12, G13, K0, K1, K2, K3, K4, K5, K6, S28, G21⟩ := g1.ly hS
              have eln : _ = (nl : Int) := (S1.2.2 (s + 9) i (by unfold regP; omega)).trans hln
              have end_ := fun l hl9 => (S1.2.2 (s + 12) l (by unfold regP; omega)).trans (hnd l hl9)
              have v5 := hqE.1.1
              have w5 : h.2.2.1 = hE.2.2.1 := by rw [S1.2.1]
              have K9 : hE.2.2.1 (s + 2) 2 = some (s + 2 + 3) := (g1.pg (isS_P hS)).2.2.2.2.2.2.2.2.1
              have G5 := (g1.pg (isS_P hS)).2.2.2.1
              change RN 69 104 _ _ _ 0 0 _
              dsimp only [Option.toList, List.nil_append]
              refine r_aload_n hm rfl (k := ?_)
              refine r_getR (hm := hm) (hf := rfl) (hd := rfl) (hs := (by first | assumption | exact G1 | exact G2 | exact G8 | exact G9 | exact G12 | exact G13 | exact G5)) (hv := (by first | exact putI_eq | exact (putI_ne (by omega)).trans (by first | exact putI_eq | exact (putI_ne (by omega)).trans (by first | exact putI_eq | exact (putI_ne (by omega)).trans (by first | first | assumption | exact K0 | exact K2 | exact K5 | exact K6 | exact K9 | exact end_ _ (by omega)) | first | assumption | exact K0 | exact K2 | exact K5 | exact K6 | exact K9 | exact end_ _ (by omega)) | first | assumption | exact K0 | exact K2 | exact K5 | exact K6 | exact K9 | exact end_ _ (by omega)) | first | assumption | exact K0 | exact K2 | exact K5 | exact K6 | exact K9 | exact end_ _ (by omega))) (k := ?_)
              refine r_iload_n hm rfl (k := ?_)
              refine r_aload_n hm rfl (k := ?_)
              refine r_getR (hm := hm) (hf := rfl) (hd := rfl) (hs := (by first | assumption | exact G1 | exact G2 | exact G8 | exact G9 | exact G12 | exact G13 | exact G5)) (hv := (by first | exact putI_eq | exact (putI_ne (by omega)).trans (by first | exact putI_eq | exact (putI_ne (by omega)).trans (by first | exact putI_eq | exact (putI_ne (by omega)).trans (by first | first | assumption | exact K0 | exact K2 | exact K5 | exact K6 | exact K9 | exact end_ _ (by omega)) | first | assumption | exact K0 | exact K2 | exact K5 | exact K6 | exact K9 | exact end_ _ (by omega)) | first | assumption | exact K0 | exact K2 | exact K5 | exact K6 | exact K9 | exact end_ _ (by omega)) | first | assumption | exact K0 | exact K2 | exact K5 | exact K6 | exact K9 | exact end_ _ (by omega))) (k := ?_)
              refine r_getI (hm := hm) (hf := rfl) (hd := rfl) (hs := (by first | assumption | exact G1 | exact G2 | exact G8 | exact G9 | exact G12 | exact G13 | exact G5)) (hv := (by first | exact putI_eq | exact (putI_ne (by omega)).trans (by first | exact putI_eq | exact (putI_ne (by omega)).trans (by first | exact putI_eq | exact (putI_ne (by omega)).trans (by first | first | assumption | exact K0 | exact K2 | exact K5 | exact K6 | exact K9 | exact end_ _ (by omega)) | first | assumption | exact K0 | exact K2 | exact K5 | exact K6 | exact K9 | exact end_ _ (by omega)) | first | assumption | exact K0 | exact K2 | exact K5 | exact K6 | exact K9 | exact end_ _ (by omega)) | first | assumption | exact K0 | exact K2 | exact K5 | exact K6 | exact K9 | exact end_ _ (by omega))) (k := ?_)
              refine r_iast (hm := hm) (hf := rfl) (h28 := (by omega)) (hs := (by first | assumption | exact G1 | exact G2 | exact G8 | exact G9 | exact G12 | exact G13 | exact G5)) (hi := rfl) (hn := (by omega)) (k := ?_)
              refine r_aload_n hm rfl (k := ?_)
              refine r_getR (hm := hm) (hf := rfl) (hd := rfl) (hs := (by first | assumption | exact G1 | exact G2 | exact G8 | exact G9 | exact G12 | exact G13 | exact G5)) (hv := (by first | exact putI_eq | exact (putI_ne (by omega)).trans (by first | exact putI_eq | exact (putI_ne (by omega)).trans (by first | exact putI_eq | exact (putI_ne (by omega)).trans (by first | first | assumption | exact K0 | exact K2 | exact K5 | exact K6 | exact K9 | exact end_ _ (by omega)) | first | assumption | exact K0 | exact K2 | exact K5 | exact K6 | exact K9 | exact end_ _ (by omega)) | first | assumption | exact K0 | exact K2 | exact K5 | exact K6 | exact K9 | exact end_ _ (by omega)) | first | assumption | exact K0 | exact K2 | exact K5 | exact K6 | exact K9 | exact end_ _ (by omega))) (k := ?_)
              refine r_getR (hm := hm) (hf := rfl) (hd := rfl) (hs := (by first | assumption | exact G1 | exact G2 | exact G8 | exact G9 | exact G12 | exact G13 | exact G5)) (hv := (by first | exact putI_eq | exact (putI_ne (by omega)).trans (by first | exact putI_eq | exact (putI_ne (by omega)).trans (by first | exact putI_eq | exact (putI_ne (by omega)).trans (by first | first | assumption | exact K0 | exact K2 | exact K5 | exact K6 | exact K9 | exact end_ _ (by omega)) | first | assumption | exact K0 | exact K2 | exact K5 | exact K6 | exact K9 | exact end_ _ (by omega)) | first | assumption | exact K0 | exact K2 | exact K5 | exact K6 | exact K9 | exact end_ _ (by omega)) | first | assumption | exact K0 | exact K2 | exact K5 | exact K6 | exact K9 | exact end_ _ (by omega))) (k := ?_)
              refine r_iload_n hm rfl (k := ?_)
              refine r_aload_n hm rfl (k := ?_)
              refine r_getR (hm := hm) (hf := rfl) (hd := rfl) (hs := (by first | assumption | exact G1 | exact G2 | exact G8 | exact G9 | exact G12 | exact G13 | exact G5)) (hv := (by first | exact putI_eq | exact (putI_ne (by omega)).trans (by first | exact putI_eq | exact (putI_ne (by omega)).trans (by first | exact putI_eq | exact (putI_ne (by omega)).trans (by first | first | assumption | exact K0 | exact K2 | exact K5 | exact K6 | exact K9 | exact end_ _ (by omega)) | first | assumption | exact K0 | exact K2 | exact K5 | exact K6 | exact K9 | exact end_ _ (by omega)) | first | assumption | exact K0 | exact K2 | exact K5 | exact K6 | exact K9 | exact end_ _ (by omega)) | first | assumption | exact K0 | exact K2 | exact K5 | exact K6 | exact K9 | exact end_ _ (by omega))) (k := ?_)
              refine r_getI (hm := hm) (hf := rfl) (hd := rfl) (hs := (by first | assumption | exact G1 | exact G2 | exact G8 | exact G9 | exact G12 | exact G13 | exact G5)) (hv := (by first | exact putI_eq | exact (putI_ne (by omega)).trans (by first | exact putI_eq | exact (putI_ne (by omega)).trans (by first | exact putI_eq | exact (putI_ne (by omega)).trans (by first | first | assumption | exact K0 | exact K2 | exact K5 | exact K6 | exact K9 | exact end_ _ (by omega)) | first | assumption | exact K0 | exact K2 | exact K5 | exact K6 | exact K9 | exact end_ _ (by omega)) | first | assumption | exact K0 | exact K2 | exact K5 | exact K6 | exact K9 | exact end_ _ (by omega)) | first | assumption | exact K0 | exact K2 | exact K5 | exact K6 | exact K9 | exact end_ _ (by omega))) (k := ?_)
              refine r_iast (hm := hm) (hf := rfl) (h28 := (by omega)) (hs := (by first | assumption | exact G1 | exact G2 | exact G8 | exact G9 | exact G12 | exact G13 | exact G5)) (hi := rfl) (hn := (by omega)) (k := ?_)
              refine r_iinc hm rfl (hr := (by omega)) (k := ?_)
              refine r_goto (t := 10) hm rfl (k := ?_)
              have e9 : llN x H i nl nd q (l + 1) = (tk (sf (rm x H (if l = 0 ∧ 1 < nl then nd 0 + nd 1 else nd l) (llN x H i nl nd q l).1) i) (nd l), upf (llN x H i nl nd q l).2 l ((rm x H (if l = 0 ∧ 1 < nl then nd 0 + nd 1 else nd l) (llN x H i nl nd q l).1).1 : Int)) := by
                show ll1 x H i nl nd l (llN x H i nl nd q l) = _
                unfold ll1
                rw [if_pos (show l = 0 by omega)]
              refine ih (d - 1) (by omega) (l + 1) _ _ (by omega) (Sm.put (Sm.put S1 (by unfold regP; omega)) (by unfold regP; omega)) ?_ ?_ (fun k hk => ?_)
              · rw [e9]
                exact (hqE.same (Sm.put (S := fun a k => a = s + 13) Sm.refl rfl) (fun a k z => by omega)).lpi c5
              · rw [e9]
                exact putI_eq
              · rw [e9]
                simp (disch := omega) only [putI_fne, putI_feq, upf_ne, upf_eq]
                by_cases ek : k = l
                · subst ek
                  simp (disch := omega) only [putI_fne, putI_feq, upf_ne, upf_eq]
                  first | done | rfl
                · simp (disch := omega) only [putI_fne, putI_feq, upf_ne, upf_eq]
                  rw [SX k]; exact eP k (by omega)
theorem c_spreadPages {L : Nat} {h : Hp} {s F n : Nat} {f : Nat → Int} {lo : Nat → Nat} (g : GG L h) (hS : isS s) (hF : F + n ≤ 1200) (hA : ∀ k, k < n → h.2.1 (s + 10) (F + k) = (lo k : Int) ∧ lo k < 60 ∧ h.2.1 (s + 13) (lo k) = f k) : RN 70 0 [some (.inr (.inr (some (s + 1)))), some (.inl (F : Int)), some (.inl (n : Int)), none] [] h 0 0 (fun v h2 => Sm (fun a k => a = s + 11 ∧ F ≤ k) h h2 ∧ (∀ k, k < n → h2.2.1 (s + 11) (F + k) = f k) ∧ v = none) := by
  have hm : mrec 70 = some nM70 := rfl
  refine r_iload_n hm rfl (k := ?_)
  refine r_istore_n hm rfl (k := ?_)
  suffices LP : ∀ (d k : Nat) (h1 : Hp), k + d = n → Sm (fun a k => a = s + 11 ∧ F ≤ k) h h1 → (∀ k2, k2 < k → h1.2.1 (s + 11) (F + k2) = f k2) → RN 70 2 [some (.inr (.inr (some (s + 1)))), some (.inl (F : Int)), some (.inl (n : Int)), some (.inl ((F + k : Nat) : Int))] [] h1 0 0 (fun v h2 => Sm (fun a k => a = s + 11 ∧ F ≤ k) h h2 ∧ (∀ k, k < n → h2.2.1 (s + 11) (F + k) = f k) ∧ v = none) from LP n 0 _ (by omega) Sm.refl (fun k hk => by omega)
  refine fun d => Nat.strongRecOn d (fun d ih => ?_)
  intro k h1 hd S1 eP
  have g1 := S1.gg g
  obtain ⟨G1, G2, G8, G9, G10, G11, G12, G13, K0, K1, K2, K3, K4, K5, K6, S28, G21⟩ := g1.ly hS
  refine r_iload_n hm rfl (k := ?_)
  refine r_iload_n hm rfl (k := ?_)
  refine r_iload_n hm rfl (k := ?_)
  refine r_iadd hm rfl (hr := (by omega)) (k := ?_)
  refine r_icmp_ge (t := 32) hm rfl rfl (fun c6 => ?_) (fun c6 => ?_)
  · refine r_return hm rfl rfl (Nat.le_of_ble_eq_true rfl) (Nat.le_of_ble_eq_true rfl) ?_
    have ek : k = n := by omega
    subst ek
    exact ⟨S1, eP, rfl⟩
  · have e10 : h1.2.1 (s + 10) (F + k) = (lo k : Int) := (S1.2.2 _ _ (by omega)).trans (hA k (by omega)).1
    have e11 : h1.2.1 (s + 13) (lo k) = f k := (S1.2.2 _ _ (by omega)).trans (hA k (by omega)).2.2
    have e12 := (hA k (by omega)).2.1
    refine r_aload_n hm rfl (k := ?_)
    refine r_getR (hm := hm) (hf := rfl) (hd := rfl) (hs := (by first | assumption | exact G1 | exact G2 | exact G8 | exact G9 | exact G12 | exact G13 | exact G11 | exact G10)) (hv := (by first | assumption | exact K3 | exact K4 | exact K6 | exact e10 | exact e11)) (k := ?_)
    refine r_iload_n hm rfl (k := ?_)
    refine r_aload_n hm rfl (k := ?_)
    refine r_getR (hm := hm) (hf := rfl) (hd := rfl) (hs := (by first | assumption | exact G1 | exact G2 | exact G8 | exact G9 | exact G12 | exact G13 | exact G11 | exact G10)) (hv := (by first | assumption | exact K3 | exact K4 | exact K6 | exact e10 | exact e11)) (k := ?_)
    refine r_aload_n hm rfl (k := ?_)
    refine r_getR (hm := hm) (hf := rfl) (hd := rfl) (hs := (by first | assumption | exact G1 | exact G2 | exact G8 | exact G9 | exact G12 | exact G13 | exact G11 | exact G10)) (hv := (by first | assumption | exact K3 | exact K4 | exact K6 | exact e10 | exact e11)) (k := ?_)
    refine r_iload_n hm rfl (k := ?_)
    refine r_iald (hm := hm) (hf := rfl) (hs := (by first | assumption | exact G1 | exact G2 | exact G8 | exact G9 | exact G12 | exact G13 | exact G11 | exact G10)) (kk := F + k) (hi := by omega) (hn := (by omega)) (hv := (by first | assumption | exact K3 | exact K4 | exact K6 | exact e10 | exact e11)) (k := ?_)
    refine r_iald (hm := hm) (hf := rfl) (hs := (by first | assumption | exact G1 | exact G2 | exact G8 | exact G9 | exact G12 | exact G13 | exact G11 | exact G10)) (kk := lo k) (hi := by omega) (hn := (by omega)) (hv := (by first | assumption | exact K3 | exact K4 | exact K6 | exact e10 | exact e11)) (k := ?_)
    refine r_iast (hm := hm) (hf := rfl) (h28 := (by omega)) (hs := (by first | assumption | exact G1 | exact G2 | exact G8 | exact G9 | exact G12 | exact G13 | exact G11 | exact G10)) (hi := rfl) (hn := (by omega)) (k := ?_)
    refine r_iinc hm rfl (hr := (by omega)) (k := ?_)
    refine r_goto (t := 2) hm rfl (k := ?_)
    refine ih (d - 1) (by omega) (k + 1) _ (by omega) (Sm.put S1 (by omega)) (fun k2 hk2 => ?_)
    simp (disch := omega) only [putI_fne, putI_feq, upf_ne, upf_eq]
    by_cases ek : k2 = k
    · subst ek
      simp (disch := omega) only [putI_fne, putI_feq, upf_ne, upf_eq]
      try done
    · simp (disch := omega) only [putI_fne, putI_feq, upf_ne, upf_eq]
      exact eP k2 (by omega)
set_option maxRecDepth 8000 in
theorem m_setLines {L : Nat} {h : Hp} {c : Nat} {x : Tx} (g : GG L h) (hc : h.2.1 1085 12 = (c : Int)) (hc3 : c ≤ 3) (hR : RepM h c x) {T i nl : Nat} {nd : Nat → Int} {H : Int} {q : PS} (hH : 8 ≤ H ∧ H ≤ 60) (hq : PgM h H q) (ok : PSok x T i q) (hT : T + nl ≤ 1200) (hi : i ≤ 59) (hix : i < x.1) (hnl : nl ≤ 60) (hd : okNd nd) (hnd : ∀ l, l < nl → h.2.1 1113 l = nd l) : RN 193 0 [some (.inr (.inr (some 1085))), some (.inl (i : Int)), some (.inl (nl : Int)), none] [] h 0 0 (fun v h2 => Sm (fun a k => regW a k ∨ a = 1114 ∨ (a = 1109 ∧ k = i)) h h2 ∧ PgM h2 H (lls x H i nl nd q).1 ∧ (∀ l, l < nl → h2.2.1 1114 l = (lls x H i nl nd q).2 l) ∧ h2.2.1 1109 i = (nl : Int) ∧ v = none) := by
  have hm : mrec 193 = some nM193 := rfl
  have g1 := g
  obtain ⟨v5, v6, v7, v8, vus, vfp, vlp, vwr⟩ := id hq
  refine r_aload_n hm rfl (k := ?_)
  refine r_getR (hm := hm) (hf := rfl) (hd := rfl) (hs := (by first | assumption | exact (g1.1 _).trans rfl)) (hv := (by first | exact putI_eq | exact (putI_ne (by omega)).trans (by first | exact putI_eq | exact (putI_ne (by omega)).trans (by first | exact putI_eq | exact (putI_ne (by omega)).trans (by first | exact putI_eq | exact (putI_ne (by omega)).trans (by first | first | assumption | exact g1.2 _ _ _ rfl | exact end_ _ (by omega) | exact vus _ (by omega) (by omega) | exact vfp _ cf) | first | assumption | exact g1.2 _ _ _ rfl | exact end_ _ (by omega) | exact vus _ (by omega) (by omega) | exact vfp _ cf) | first | assumption | exact g1.2 _ _ _ rfl | exact end_ _ (by omega) | exact vus _ (by omega) (by omega) | exact vfp _ cf) | first | assumption | exact g1.2 _ _ _ rfl | exact end_ _ (by omega) | exact vus _ (by omega) (by omega) | exact vfp _ cf) | first | assumption | exact g1.2 _ _ _ rfl | exact end_ _ (by omega) | exact vus _ (by omega) (by omega) | exact vfp _ cf)) (k := ?_)
  refine r_iload_n hm rfl (k := ?_)
  refine r_aload_n hm rfl (k := ?_)
  refine r_getI (hm := hm) (hf := rfl) (hd := rfl) (hs := (by first | assumption | exact (g1.1 _).trans rfl)) (hv := (by first | exact putI_eq | exact (putI_ne (by omega)).trans (by first | exact putI_eq | exact (putI_ne (by omega)).trans (by first | exact putI_eq | exact (putI_ne (by omega)).trans (by first | exact putI_eq | exact (putI_ne (by omega)).trans (by first | first | assumption | exact g1.2 _ _ _ rfl | exact end_ _ (by omega) | exact vus _ (by omega) (by omega) | exact vfp _ cf) | first | assumption | exact g1.2 _ _ _ rfl | exact end_ _ (by omega) | exact vus _ (by omega) (by omega) | exact vfp _ cf) | first | assumption | exact g1.2 _ _ _ rfl | exact end_ _ (by omega) | exact vus _ (by omega) (by omega) | exact vfp _ cf) | first | assumption | exact g1.2 _ _ _ rfl | exact end_ _ (by omega) | exact vus _ (by omega) (by omega) | exact vfp _ cf) | first | assumption | exact g1.2 _ _ _ rfl | exact end_ _ (by omega) | exact vus _ (by omega) (by omega) | exact vfp _ cf)) (k := ?_)
  refine r_iast (hm := hm) (hf := rfl) (h28 := (by omega)) (hs := (by first | assumption | exact (g1.1 _).trans rfl)) (hi := rfl) (hn := (by omega)) (k := ?_)
  refine r_iconst hm rfl (k := ?_)
  refine r_istore_n hm rfl (k := ?_)
  suffices LP : ∀ (d l : Nat) (h1 : Hp), l + d = nl → Sm (fun a k => regW a k ∨ a = 1114 ∨ (a = 1109 ∧ k = i)) h h1 → PgM h1 H (llN x H i nl nd q l).1 → (∀ k, k < l → h1.2.1 1114 k = (llN x H i nl nd q l).2 k) → RN 193 12 [some (.inr (.inr (some 1085))), some (.inl (i : Int)), some (.inl (nl : Int)), some (.inl (l : Int))] [] h1 0 0 (fun v h2 => Sm (fun a k => regW a k ∨ a = 1114 ∨ (a = 1109 ∧ k = i)) h h2 ∧ PgM h2 H (lls x H i nl nd q).1 ∧ (∀ l, l < nl → h2.2.1 1114 l = (lls x H i nl nd q).2 l) ∧ h2.2.1 1109 i = (nl : Int) ∧ v = none) from LP nl 0 _ (by omega) (Sm.put Sm.refl (by unfold regW; omega)) (by
    unfold PgM
    simp (disch := omega) only [putI_fne, putI_feq, upf_ne, upf_eq]
    exact hq.sf) (fun k hk => by omega)
  clear hq v5 v6 v7 v8 vus vfp vlp vwr g1
  refine fun d => Nat.strongRecOn d (fun d ih => ?_)
  intro l h1 hl S1 hq eP
  have g1 := S1.gg g
  have hc1 := (S1.2.2 1085 12 (by unfold regW; omega)).trans hc
  have hR1 := S1.repM (fun a k q9 => by unfold regW at q9; omega) hR
  have end_ := fun l hl9 => (S1.2.2 1113 l (by unfold regW; omega)).trans (hnd l hl9)
  obtain ⟨v5, v6, v7, v8, vus, vfp, vlp, vwr⟩ := id hq
  obtain ⟨a1, a2, a3⟩ := llN_ok (nl := nl) hH hi hd ok l
  have a4 := a1.rng (by omega)
  have hdl := hd l
  have hd0 := hd 0
  have hd1 := hd 1
  refine r_iload_n hm rfl (k := ?_)
  refine r_iload_n hm rfl (k := ?_)
  refine r_icmp_ge (t := 109) hm rfl rfl (fun c14 => ?_) (fun c14 => ?_)
  · refine r_aload_n hm rfl (k := ?_)
    refine r_getR (hm := hm) (hf := rfl) (hd := rfl) (hs := (by first | assumption | exact (g1.1 _).trans rfl)) (hv := (by first | exact putI_eq | exact (putI_ne (by omega)).trans (by first | exact putI_eq | exact (putI_ne (by omega)).trans (by first | exact putI_eq | exact (putI_ne (by omega)).trans (by first | exact putI_eq | exact (putI_ne (by omega)).trans (by first | first | assumption | exact g1.2 _ _ _ rfl | exact end_ _ (by omega) | exact vus _ (by omega) (by omega) | exact vfp _ cf) | first | assumption | exact g1.2 _ _ _ rfl | exact end_ _ (by omega) | exact vus _ (by omega) (by omega) | exact vfp _ cf) | first | assumption | exact g1.2 _ _ _ rfl | exact end_ _ (by omega) | exact vus _ (by omega) (by omega) | exact vfp _ cf) | first | assumption | exact g1.2 _ _ _ rfl | exact end_ _ (by omega) | exact vus _ (by omega) (by omega) | exact vfp _ cf) | first | assumption | exact g1.2 _ _ _ rfl | exact end_ _ (by omega) | exact vus _ (by omega) (by omega) | exact vfp _ cf)) (k := ?_)
    refine r_iload_n hm rfl (k := ?_)
    refine r_aload_n hm rfl (k := ?_)
    refine r_getI (hm := hm) (hf := rfl) (hd := rfl) (hs := (by first | assumption | exact (g1.1 _).trans rfl)) (hv := (by first | exact putI_eq | exact (putI_ne (by omega)).trans (by first | exact putI_eq | exact (putI_ne (by omega)).trans (by first | exact putI_eq | exact (putI_ne (by omega)).trans (by first | exact putI_eq | exact (putI_ne (by omega)).trans (by first | first | assumption | exact g1.2 _ _ _ rfl | exact end_ _ (by omega) | exact vus _ (by omega) (by omega) | exact vfp _ cf) | first | assumption | exact g1.2 _ _ _ rfl | exact end_ _ (by omega) | exact vus _ (by omega) (by omega) | exact vfp _ cf) | first | assumption | exact g1.2 _ _ _ rfl | exact end_ _ (by omega) | exact vus _ (by omega) (by omega) | exact vfp _ cf) | first | assumption | exact g1.2 _ _ _ rfl | exact end_ _ (by omega) | exact vus _ (by omega) (by omega) | exact vfp _ cf) | first | assumption | exact g1.2 _ _ _ rfl | exact end_ _ (by omega) | exact vus _ (by omega) (by omega) | exact vfp _ cf)) (k := ?_)
    refine r_iast (hm := hm) (hf := rfl) (h28 := (by omega)) (hs := (by first | assumption | exact (g1.1 _).trans rfl)) (hi := rfl) (hn := (by omega)) (k := ?_)
    refine r_aload_n hm rfl (k := ?_)
    refine r_getR (hm := hm) (hf := rfl) (hd := rfl) (hs := (by first | assumption | exact (g1.1 _).trans rfl)) (hv := (by first | exact putI_eq | exact (putI_ne (by omega)).trans (by first | exact putI_eq | exact (putI_ne (by omega)).trans (by first | exact putI_eq | exact (putI_ne (by omega)).trans (by first | exact putI_eq | exact (putI_ne (by omega)).trans (by first | first | assumption | exact g1.2 _ _ _ rfl | exact end_ _ (by omega) | exact vus _ (by omega) (by omega) | exact vfp _ cf) | first | assumption | exact g1.2 _ _ _ rfl | exact end_ _ (by omega) | exact vus _ (by omega) (by omega) | exact vfp _ cf) | first | assumption | exact g1.2 _ _ _ rfl | exact end_ _ (by omega) | exact vus _ (by omega) (by omega) | exact vfp _ cf) | first | assumption | exact g1.2 _ _ _ rfl | exact end_ _ (by omega) | exact vus _ (by omega) (by omega) | exact vfp _ cf) | first | assumption | exact g1.2 _ _ _ rfl | exact end_ _ (by omega) | exact vus _ (by omega) (by omega) | exact vfp _ cf)) (k := ?_)
    refine r_iload_n hm rfl (k := ?_)
    refine r_iload_n hm rfl (k := ?_)
    refine r_iast (hm := hm) (hf := rfl) (h28 := (by omega)) (hs := (by first | assumption | exact (g1.1 _).trans rfl)) (hi := rfl) (hn := (by omega)) (k := ?_)
    refine r_return hm rfl rfl (Nat.le_of_ble_eq_true rfl) (Nat.le_of_ble_eq_true rfl) ?_
    have el : l = nl := by omega
    subst el
    refine ⟨Sm.put (Sm.put S1 (by unfold regW; omega)) (by unfold regW; omega), ?_, fun k hk => ?_, putI_eq, rfl⟩
    · unfold PgM
      simp (disch := omega) only [putI_fne, putI_feq, upf_ne, upf_eq]
      exact hq.se
    · simp (disch := omega) only [putI_fne, putI_feq, upf_ne, upf_eq]
      exact eP k hk
  · refine r_aload_n hm rfl (k := ?_)
    refine r_iload_n hm rfl (k := ?_)
    refine r_if_ne (t := 43) hm rfl rfl (fun c19 => ?_) (fun c19 => ?_)
    · refine r_aload_n hm rfl (k := ?_)
      refine r_getR (hm := hm) (hf := rfl) (hd := rfl) (hs := (by first | assumption | exact (g1.1 _).trans rfl)) (hv := (by first | exact putI_eq | exact (putI_ne (by omega)).trans (by first | exact putI_eq | exact (putI_ne (by omega)).trans (by first | exact putI_eq | exact (putI_ne (by omega)).trans (by first | exact putI_eq | exact (putI_ne (by omega)).trans (by first | first | assumption | exact g1.2 _ _ _ rfl | exact end_ _ (by omega) | exact vus _ (by omega) (by omega) | exact vfp _ cf) | first | assumption | exact g1.2 _ _ _ rfl | exact end_ _ (by omega) | exact vus _ (by omega) (by omega) | exact vfp _ cf) | first | assumption | exact g1.2 _ _ _ rfl | exact end_ _ (by omega) | exact vus _ (by omega) (by omega) | exact vfp _ cf) | first | assumption | exact g1.2 _ _ _ rfl | exact end_ _ (by omega) | exact vus _ (by omega) (by omega) | exact vfp _ cf) | first | assumption | exact g1.2 _ _ _ rfl | exact end_ _ (by omega) | exact vus _ (by omega) (by omega) | exact vfp _ cf)) (k := ?_)
      refine r_iload_n hm rfl (k := ?_)
      refine r_iald (hm := hm) (hf := rfl) (hs := (by first | assumption | exact (g1.1 _).trans rfl)) (hi := rfl) (hn := (by omega)) (hv := (by first | exact putI_eq | exact (putI_ne (by omega)).trans (by first | exact putI_eq | exact (putI_ne (by omega)).trans (by first | exact putI_eq | exact (putI_ne (by omega)).trans (by first | exact putI_eq | exact (putI_ne (by omega)).trans (by first | first | assumption | exact g1.2 _ _ _ rfl | exact end_ _ (by omega) | exact vus _ (by omega) (by omega) | exact vfp _ cf) | first | assumption | exact g1.2 _ _ _ rfl | exact end_ _ (by omega) | exact vus _ (by omega) (by omega) | exact vfp _ cf) | first | assumption | exact g1.2 _ _ _ rfl | exact end_ _ (by omega) | exact vus _ (by omega) (by omega) | exact vfp _ cf) | first | assumption | exact g1.2 _ _ _ rfl | exact end_ _ (by omega) | exact vus _ (by omega) (by omega) | exact vfp _ cf) | first | assumption | exact g1.2 _ _ _ rfl | exact end_ _ (by omega) | exact vus _ (by omega) (by omega) | exact vfp _ cf)) (k := ?_)
      have en : (if l = 0 ∧ 1 < nl then nd 0 + nd 1 else nd l) = nd l := if_neg (by omega)
      have qm := m_room g1 hc1 hc3 hR1 hH hq a1 (by omega) hi (by omega) (n := nd l) (by omega)
      refine r_callv (j2 := 191) hm rfl rfl rfl rfl rfl rfl (by first | assumption | exact (g1.1 _).trans rfl) (Nat.le_of_ble_eq_true rfl) (Nat.le_of_ble_eq_true rfl) rfl ⟨Nat.le_of_ble_eq_true rfl, Nat.le_of_ble_eq_true rfl, Nat.le_of_ble_eq_true rfl, Nat.le_of_ble_eq_true rfl, Nat.le_of_ble_eq_true rfl⟩ rfl (qm) (fun v9 hB p9 => ?_)
      obtain ⟨SB, hqB, e1⟩ := p9
      subst e1
      rw [← en] at hqB
      obtain ⟨c1, c2, c3⟩ := rm_ok (n := (if l = 0 ∧ 1 < nl then nd 0 + nd 1 else nd l)) hH hi a1
      have c4 := c1.rng (by omega)
      have cf : (rm x H (if l = 0 ∧ 1 < nl then nd 0 + nd 1 else nd l) (llN x H i nl nd q l).1).2.2.1 i ≠ 0 := rmN_fp 61 _ a2
      have SX : ∀ k, hB.2.1 1114 k = h1.2.1 1114 k := fun k => SB.2.2 _ _ (by unfold regW; omega)
      replace S1 : Sm (fun a k => regW a k ∨ a = 1114 ∨ (a = 1109 ∧ k = i)) h hB := S1.trans (SB.mono (fun a k z => Or.inl z))
      have g1 := S1.gg g
      have hc1 := (S1.2.2 1085 12 (by unfold regW; omega)).trans hc
      have hR1 := S1.repM (fun a k q9 => by unfold regW at q9; omega) hR
      have end_ := fun l hl9 => (S1.2.2 1113 l (by unfold regW; omega)).trans (hnd l hl9)
      obtain ⟨v5, v6, v7, v8, vus, vfp, vlp, vwr⟩ := id hqB
      have c6 := c1.1.2.2.1
      change RN 193 52 _ _ _ 0 0 _
      dsimp only [Option.toList, List.nil_append]
      refine r_aload_n hm rfl (k := ?_)
      refine r_getR (hm := hm) (hf := rfl) (hd := rfl) (hs := (by first | assumption | exact (g1.1 _).trans rfl)) (hv := (by first | exact putI_eq | exact (putI_ne (by omega)).trans (by first | exact putI_eq | exact (putI_ne (by omega)).trans (by first | exact putI_eq | exact (putI_ne (by omega)).trans (by first | exact putI_eq | exact (putI_ne (by omega)).trans (by first | first | assumption | exact g1.2 _ _ _ rfl | exact end_ _ (by omega) | exact vus _ (by omega) (by omega) | exact vfp _ cf) | first | assumption | exact g1.2 _ _ _ rfl | exact end_ _ (by omega) | exact vus _ (by omega) (by omega) | exact vfp _ cf) | first | assumption | exact g1.2 _ _ _ rfl | exact end_ _ (by omega) | exact vus _ (by omega) (by omega) | exact vfp _ cf) | first | assumption | exact g1.2 _ _ _ rfl | exact end_ _ (by omega) | exact vus _ (by omega) (by omega) | exact vfp _ cf) | first | assumption | exact g1.2 _ _ _ rfl | exact end_ _ (by omega) | exact vus _ (by omega) (by omega) | exact vfp _ cf)) (k := ?_)
      refine r_aload_n hm rfl (k := ?_)
      refine r_getI (hm := hm) (hf := rfl) (hd := rfl) (hs := (by first | assumption | exact (g1.1 _).trans rfl)) (hv := (by first | exact putI_eq | exact (putI_ne (by omega)).trans (by first | exact putI_eq | exact (putI_ne (by omega)).trans (by first | exact putI_eq | exact (putI_ne (by omega)).trans (by first | exact putI_eq | exact (putI_ne (by omega)).trans (by first | first | assumption | exact g1.2 _ _ _ rfl | exact end_ _ (by omega) | exact vus _ (by omega) (by omega) | exact vfp _ cf) | first | assumption | exact g1.2 _ _ _ rfl | exact end_ _ (by omega) | exact vus _ (by omega) (by omega) | exact vfp _ cf) | first | assumption | exact g1.2 _ _ _ rfl | exact end_ _ (by omega) | exact vus _ (by omega) (by omega) | exact vfp _ cf) | first | assumption | exact g1.2 _ _ _ rfl | exact end_ _ (by omega) | exact vus _ (by omega) (by omega) | exact vfp _ cf) | first | assumption | exact g1.2 _ _ _ rfl | exact end_ _ (by omega) | exact vus _ (by omega) (by omega) | exact vfp _ cf)) (k := ?_)
      refine r_dup2 hm rfl (k := ?_)
      refine r_iald (hm := hm) (hf := rfl) (hs := (by first | assumption | exact (g1.1 _).trans rfl)) (hi := rfl) (hn := (by omega)) (hv := (by first | exact putI_eq | exact (putI_ne (by omega)).trans (by first | exact putI_eq | exact (putI_ne (by omega)).trans (by first | exact putI_eq | exact (putI_ne (by omega)).trans (by first | exact putI_eq | exact (putI_ne (by omega)).trans (by first | first | assumption | exact g1.2 _ _ _ rfl | exact end_ _ (by omega) | exact vus _ (by omega) (by omega) | exact vfp _ cf) | first | assumption | exact g1.2 _ _ _ rfl | exact end_ _ (by omega) | exact vus _ (by omega) (by omega) | exact vfp _ cf) | first | assumption | exact g1.2 _ _ _ rfl | exact end_ _ (by omega) | exact vus _ (by omega) (by omega) | exact vfp _ cf) | first | assumption | exact g1.2 _ _ _ rfl | exact end_ _ (by omega) | exact vus _ (by omega) (by omega) | exact vfp _ cf) | first | assumption | exact g1.2 _ _ _ rfl | exact end_ _ (by omega) | exact vus _ (by omega) (by omega) | exact vfp _ cf)) (k := ?_)
      refine r_aload_n hm rfl (k := ?_)
      refine r_getR (hm := hm) (hf := rfl) (hd := rfl) (hs := (by first | assumption | exact (g1.1 _).trans rfl)) (hv := (by first | exact putI_eq | exact (putI_ne (by omega)).trans (by first | exact putI_eq | exact (putI_ne (by omega)).trans (by first | exact putI_eq | exact (putI_ne (by omega)).trans (by first | exact putI_eq | exact (putI_ne (by omega)).trans (by first | first | assumption | exact g1.2 _ _ _ rfl | exact end_ _ (by omega) | exact vus _ (by omega) (by omega) | exact vfp _ cf) | first | assumption | exact g1.2 _ _ _ rfl | exact end_ _ (by omega) | exact vus _ (by omega) (by omega) | exact vfp _ cf) | first | assumption | exact g1.2 _ _ _ rfl | exact end_ _ (by omega) | exact vus _ (by omega) (by omega) | exact vfp _ cf) | first | assumption | exact g1.2 _ _ _ rfl | exact end_ _ (by omega) | exact vus _ (by omega) (by omega) | exact vfp _ cf) | first | assumption | exact g1.2 _ _ _ rfl | exact end_ _ (by omega) | exact vus _ (by omega) (by omega) | exact vfp _ cf)) (k := ?_)
      refine r_iload_n hm rfl (k := ?_)
      refine r_iald (hm := hm) (hf := rfl) (hs := (by first | assumption | exact (g1.1 _).trans rfl)) (hi := rfl) (hn := (by omega)) (hv := (by first | exact putI_eq | exact (putI_ne (by omega)).trans (by first | exact putI_eq | exact (putI_ne (by omega)).trans (by first | exact putI_eq | exact (putI_ne (by omega)).trans (by first | exact putI_eq | exact (putI_ne (by omega)).trans (by first | first | assumption | exact g1.2 _ _ _ rfl | exact end_ _ (by omega) | exact vus _ (by omega) (by omega) | exact vfp _ cf) | first | assumption | exact g1.2 _ _ _ rfl | exact end_ _ (by omega) | exact vus _ (by omega) (by omega) | exact vfp _ cf) | first | assumption | exact g1.2 _ _ _ rfl | exact end_ _ (by omega) | exact vus _ (by omega) (by omega) | exact vfp _ cf) | first | assumption | exact g1.2 _ _ _ rfl | exact end_ _ (by omega) | exact vus _ (by omega) (by omega) | exact vfp _ cf) | first | assumption | exact g1.2 _ _ _ rfl | exact end_ _ (by omega) | exact vus _ (by omega) (by omega) | exact vfp _ cf)) (k := ?_)
      refine r_iadd hm rfl (hr := (by omega)) (k := ?_)
      refine r_iast (hm := hm) (hf := rfl) (h28 := (by omega)) (hs := (by first | assumption | exact (g1.1 _).trans rfl)) (hi := rfl) (hn := (by omega)) (k := ?_)
      refine r_aload_n hm rfl (k := ?_)
      refine r_getR (hm := hm) (hf := rfl) (hd := rfl) (hs := (by first | assumption | exact (g1.1 _).trans rfl)) (hv := (by first | exact putI_eq | exact (putI_ne (by omega)).trans (by first | exact putI_eq | exact (putI_ne (by omega)).trans (by first | exact putI_eq | exact (putI_ne (by omega)).trans (by first | exact putI_eq | exact (putI_ne (by omega)).trans (by first | first | assumption | exact g1.2 _ _ _ rfl | exact end_ _ (by omega) | exact vus _ (by omega) (by omega) | exact vfp _ cf) | first | assumption | exact g1.2 _ _ _ rfl | exact end_ _ (by omega) | exact vus _ (by omega) (by omega) | exact vfp _ cf) | first | assumption | exact g1.2 _ _ _ rfl | exact end_ _ (by omega) | exact vus _ (by omega) (by omega) | exact vfp _ cf) | first | assumption | exact g1.2 _ _ _ rfl | exact end_ _ (by omega) | exact vus _ (by omega) (by omega) | exact vfp _ cf) | first | assumption | exact g1.2 _ _ _ rfl | exact end_ _ (by omega) | exact vus _ (by omega) (by omega) | exact vfp _ cf)) (k := ?_)
      refine r_iload_n hm rfl (k := ?_)
      refine r_aload_n hm rfl (k := ?_)
      refine r_getI (hm := hm) (hf := rfl) (hd := rfl) (hs := (by first | assumption | exact (g1.1 _).trans rfl)) (hv := (by first | exact putI_eq | exact (putI_ne (by omega)).trans (by first | exact putI_eq | exact (putI_ne (by omega)).trans (by first | exact putI_eq | exact (putI_ne (by omega)).trans (by first | exact putI_eq | exact (putI_ne (by omega)).trans (by first | first | assumption | exact g1.2 _ _ _ rfl | exact end_ _ (by omega) | exact vus _ (by omega) (by omega) | exact vfp _ cf) | first | assumption | exact g1.2 _ _ _ rfl | exact end_ _ (by omega) | exact vus _ (by omega) (by omega) | exact vfp _ cf) | first | assumption | exact g1.2 _ _ _ rfl | exact end_ _ (by omega) | exact vus _ (by omega) (by omega) | exact vfp _ cf) | first | assumption | exact g1.2 _ _ _ rfl | exact end_ _ (by omega) | exact vus _ (by omega) (by omega) | exact vfp _ cf) | first | assumption | exact g1.2 _ _ _ rfl | exact end_ _ (by omega) | exact vus _ (by omega) (by omega) | exact vfp _ cf)) (k := ?_)
      refine r_iast (hm := hm) (hf := rfl) (h28 := (by omega)) (hs := (by first | assumption | exact (g1.1 _).trans rfl)) (hi := rfl) (hn := (by omega)) (k := ?_)
      refine r_aload_n hm rfl (k := ?_)
      refine r_getR (hm := hm) (hf := rfl) (hd := rfl) (hs := (by first | assumption | exact (g1.1 _).trans rfl)) (hv := (by first | exact putI_eq | exact (putI_ne (by omega)).trans (by first | exact putI_eq | exact (putI_ne (by omega)).trans (by first | exact putI_eq | exact (putI_ne (by omega)).trans (by first | exact putI_eq | exact (putI_ne (by omega)).trans (by first | first | assumption | exact g1.2 _ _ _ rfl | exact end_ _ (by omega) | exact vus _ (by omega) (by omega) | exact vfp _ cf) | first | assumption | exact g1.2 _ _ _ rfl | exact end_ _ (by omega) | exact vus _ (by omega) (by omega) | exact vfp _ cf) | first | assumption | exact g1.2 _ _ _ rfl | exact end_ _ (by omega) | exact vus _ (by omega) (by omega) | exact vfp _ cf) | first | assumption | exact g1.2 _ _ _ rfl | exact end_ _ (by omega) | exact vus _ (by omega) (by omega) | exact vfp _ cf) | first | assumption | exact g1.2 _ _ _ rfl | exact end_ _ (by omega) | exact vus _ (by omega) (by omega) | exact vfp _ cf)) (k := ?_)
      refine r_iload_n hm rfl (k := ?_)
      refine r_iload_n hm rfl (k := ?_)
      refine r_if_ne (t := 96) hm rfl rfl (fun c86 => ?_) (fun c86 => ?_)
      · refine r_aload_n hm rfl (k := ?_)
        refine r_getR (hm := hm) (hf := rfl) (hd := rfl) (hs := (by first | assumption | exact (g1.1 _).trans rfl)) (hv := (by first | exact putI_eq | exact (putI_ne (by omega)).trans (by first | exact putI_eq | exact (putI_ne (by omega)).trans (by first | exact putI_eq | exact (putI_ne (by omega)).trans (by first | exact putI_eq | exact (putI_ne (by omega)).trans (by first | first | assumption | exact g1.2 _ _ _ rfl | exact end_ _ (by omega) | exact vus _ (by omega) (by omega) | exact vfp _ cf) | first | assumption | exact g1.2 _ _ _ rfl | exact end_ _ (by omega) | exact vus _ (by omega) (by omega) | exact vfp _ cf) | first | assumption | exact g1.2 _ _ _ rfl | exact end_ _ (by omega) | exact vus _ (by omega) (by omega) | exact vfp _ cf) | first | assumption | exact g1.2 _ _ _ rfl | exact end_ _ (by omega) | exact vus _ (by omega) (by omega) | exact vfp _ cf) | first | assumption | exact g1.2 _ _ _ rfl | exact end_ _ (by omega) | exact vus _ (by omega) (by omega) | exact vfp _ cf)) (k := ?_)
        refine r_iload_n hm rfl (k := ?_)
        refine r_iald (hm := hm) (hf := rfl) (hs := (by first | assumption | exact (g1.1 _).trans rfl)) (hi := rfl) (hn := (by omega)) (hv := (by first | exact putI_eq | exact (putI_ne (by omega)).trans (by first | exact putI_eq | exact (putI_ne (by omega)).trans (by first | exact putI_eq | exact (putI_ne (by omega)).trans (by first | exact putI_eq | exact (putI_ne (by omega)).trans (by first | first | assumption | exact g1.2 _ _ _ rfl | exact end_ _ (by omega) | exact vus _ (by omega) (by omega) | exact vfp _ cf) | first | assumption | exact g1.2 _ _ _ rfl | exact end_ _ (by omega) | exact vus _ (by omega) (by omega) | exact vfp _ cf) | first | assumption | exact g1.2 _ _ _ rfl | exact end_ _ (by omega) | exact vus _ (by omega) (by omega) | exact vfp _ cf) | first | assumption | exact g1.2 _ _ _ rfl | exact end_ _ (by omega) | exact vus _ (by omega) (by omega) | exact vfp _ cf) | first | assumption | exact g1.2 _ _ _ rfl | exact end_ _ (by omega) | exact vus _ (by omega) (by omega) | exact vfp _ cf)) (k := ?_)
        refine r_iast (hm := hm) (hf := rfl) (h28 := (by omega)) (hs := (by first | assumption | exact (g1.1 _).trans rfl)) (hi := rfl) (hn := (by omega)) (k := ?_)
        refine r_iinc hm rfl (hr := (by omega)) (k := ?_)
        refine r_goto (t := 12) hm rfl (k := ?_)
        have e9 : llN x H i nl nd q (l + 1) = (tk (rm x H (if l = 0 ∧ 1 < nl then nd 0 + nd 1 else nd l) (llN x H i nl nd q l).1) (nd l), upf (llN x H i nl nd q l).2 l ((rm x H (if l = 0 ∧ 1 < nl then nd 0 + nd 1 else nd l) (llN x H i nl nd q l).1).1 : Int)) := by
          show ll1 x H i nl nd l (llN x H i nl nd q l) = _
          unfold ll1
          rw [if_neg (show ¬ l = 0 by omega)]
        refine ih (d - 1) (by omega) (l + 1) _ (by omega) (Sm.put (Sm.put (Sm.put S1 (by unfold regW; omega)) (by unfold regW; omega)) (by unfold regW; omega)) ?_ (fun k hk => ?_)
        · rw [e9]
          unfold PgM
          simp (disch := omega) only [putI_fne, putI_feq, upf_ne, upf_eq]
          rw [← vfp i cf, upf_id]
          exact hqB.tk
        · rw [e9]
          simp (disch := omega) only [putI_fne, putI_feq, upf_ne, upf_eq]
          by_cases ek : k = l
          · subst ek
            simp (disch := omega) only [putI_fne, putI_feq, upf_ne, upf_eq]
            first | done | rfl
          · simp (disch := omega) only [putI_fne, putI_feq, upf_ne, upf_eq]
            rw [SX k]; exact eP k (by omega)
      · exfalso; omega
    · refine r_iload_n hm rfl (k := ?_)
      refine r_iconst hm rfl (k := ?_)
      refine r_icmp_le (t := 43) hm rfl rfl (fun c24 => ?_) (fun c24 => ?_)
      · refine r_aload_n hm rfl (k := ?_)
        refine r_getR (hm := hm) (hf := rfl) (hd := rfl) (hs := (by first | assumption | exact (g1.1 _).trans rfl)) (hv := (by first | exact putI_eq | exact (putI_ne (by omega)).trans (by first | exact putI_eq | exact (putI_ne (by omega)).trans (by first | exact putI_eq | exact (putI_ne (by omega)).trans (by first | exact putI_eq | exact (putI_ne (by omega)).trans (by first | first | assumption | exact g1.2 _ _ _ rfl | exact end_ _ (by omega) | exact vus _ (by omega) (by omega) | exact vfp _ cf) | first | assumption | exact g1.2 _ _ _ rfl | exact end_ _ (by omega) | exact vus _ (by omega) (by omega) | exact vfp _ cf) | first | assumption | exact g1.2 _ _ _ rfl | exact end_ _ (by omega) | exact vus _ (by omega) (by omega) | exact vfp _ cf) | first | assumption | exact g1.2 _ _ _ rfl | exact end_ _ (by omega) | exact vus _ (by omega) (by omega) | exact vfp _ cf) | first | assumption | exact g1.2 _ _ _ rfl | exact end_ _ (by omega) | exact vus _ (by omega) (by omega) | exact vfp _ cf)) (k := ?_)
        refine r_iload_n hm rfl (k := ?_)
        refine r_iald (hm := hm) (hf := rfl) (hs := (by first | assumption | exact (g1.1 _).trans rfl)) (hi := rfl) (hn := (by omega)) (hv := (by first | exact putI_eq | exact (putI_ne (by omega)).trans (by first | exact putI_eq | exact (putI_ne (by omega)).trans (by first | exact putI_eq | exact (putI_ne (by omega)).trans (by first | exact putI_eq | exact (putI_ne (by omega)).trans (by first | first | assumption | exact g1.2 _ _ _ rfl | exact end_ _ (by omega) | exact vus _ (by omega) (by omega) | exact vfp _ cf) | first | assumption | exact g1.2 _ _ _ rfl | exact end_ _ (by omega) | exact vus _ (by omega) (by omega) | exact vfp _ cf) | first | assumption | exact g1.2 _ _ _ rfl | exact end_ _ (by omega) | exact vus _ (by omega) (by omega) | exact vfp _ cf) | first | assumption | exact g1.2 _ _ _ rfl | exact end_ _ (by omega) | exact vus _ (by omega) (by omega) | exact vfp _ cf) | first | assumption | exact g1.2 _ _ _ rfl | exact end_ _ (by omega) | exact vus _ (by omega) (by omega) | exact vfp _ cf)) (k := ?_)
        have en : (if l = 0 ∧ 1 < nl then nd 0 + nd 1 else nd l) = nd l := if_neg (by omega)
        have qm := m_room g1 hc1 hc3 hR1 hH hq a1 (by omega) hi (by omega) (n := nd l) (by omega)
        refine r_callv (j2 := 191) hm rfl rfl rfl rfl rfl rfl (by first | assumption | exact (g1.1 _).trans rfl) (Nat.le_of_ble_eq_true rfl) (Nat.le_of_ble_eq_true rfl) rfl ⟨Nat.le_of_ble_eq_true rfl, Nat.le_of_ble_eq_true rfl, Nat.le_of_ble_eq_true rfl, Nat.le_of_ble_eq_true rfl, Nat.le_of_ble_eq_true rfl⟩ rfl (qm) (fun v9 hB p9 => ?_)
        obtain ⟨SB, hqB, e1⟩ := p9
        subst e1
        rw [← en] at hqB
        obtain ⟨c1, c2, c3⟩ := rm_ok (n := (if l = 0 ∧ 1 < nl then nd 0 + nd 1 else nd l)) hH hi a1
        have c4 := c1.rng (by omega)
        have cf : (rm x H (if l = 0 ∧ 1 < nl then nd 0 + nd 1 else nd l) (llN x H i nl nd q l).1).2.2.1 i ≠ 0 := rmN_fp 61 _ a2
        have SX : ∀ k, hB.2.1 1114 k = h1.2.1 1114 k := fun k => SB.2.2 _ _ (by unfold regW; omega)
        replace S1 : Sm (fun a k => regW a k ∨ a = 1114 ∨ (a = 1109 ∧ k = i)) h hB := S1.trans (SB.mono (fun a k z => Or.inl z))
        have g1 := S1.gg g
        have hc1 := (S1.2.2 1085 12 (by unfold regW; omega)).trans hc
        have hR1 := S1.repM (fun a k q9 => by unfold regW at q9; omega) hR
        have end_ := fun l hl9 => (S1.2.2 1113 l (by unfold regW; omega)).trans (hnd l hl9)
        obtain ⟨v5, v6, v7, v8, vus, vfp, vlp, vwr⟩ := id hqB
        have c6 := c1.1.2.2.1
        change RN 193 52 _ _ _ 0 0 _
        dsimp only [Option.toList, List.nil_append]
        refine r_aload_n hm rfl (k := ?_)
        refine r_getR (hm := hm) (hf := rfl) (hd := rfl) (hs := (by first | assumption | exact (g1.1 _).trans rfl)) (hv := (by first | exact putI_eq | exact (putI_ne (by omega)).trans (by first | exact putI_eq | exact (putI_ne (by omega)).trans (by first | exact putI_eq | exact (putI_ne (by omega)).trans (by first | exact putI_eq | exact (putI_ne (by omega)).trans (by first | first | assumption | exact g1.2 _ _ _ rfl | exact end_ _ (by omega) | exact vus _ (by omega) (by omega) | exact vfp _ cf) | first | assumption | exact g1.2 _ _ _ rfl | exact end_ _ (by omega) | exact vus _ (by omega) (by omega) | exact vfp _ cf) | first | assumption | exact g1.2 _ _ _ rfl | exact end_ _ (by omega) | exact vus _ (by omega) (by omega) | exact vfp _ cf) | first | assumption | exact g1.2 _ _ _ rfl | exact end_ _ (by omega) | exact vus _ (by omega) (by omega) | exact vfp _ cf) | first | assumption | exact g1.2 _ _ _ rfl | exact end_ _ (by omega) | exact vus _ (by omega) (by omega) | exact vfp _ cf)) (k := ?_)
        refine r_aload_n hm rfl (k := ?_)
        refine r_getI (hm := hm) (hf := rfl) (hd := rfl) (hs := (by first | assumption | exact (g1.1 _).trans rfl)) (hv := (by first | exact putI_eq | exact (putI_ne (by omega)).trans (by first | exact putI_eq | exact (putI_ne (by omega)).trans (by first | exact putI_eq | exact (putI_ne (by omega)).trans (by first | exact putI_eq | exact (putI_ne (by omega)).trans (by first | first | assumption | exact g1.2 _ _ _ rfl | exact end_ _ (by omega) | exact vus _ (by omega) (by omega) | exact vfp _ cf) | first | assumption | exact g1.2 _ _ _ rfl | exact end_ _ (by omega) | exact vus _ (by omega) (by omega) | exact vfp _ cf) | first | assumption | exact g1.2 _ _ _ rfl | exact end_ _ (by omega) | exact vus _ (by omega) (by omega) | exact vfp _ cf) | first | assumption | exact g1.2 _ _ _ rfl | exact end_ _ (by omega) | exact vus _ (by omega) (by omega) | exact vfp _ cf) | first | assumption | exact g1.2 _ _ _ rfl | exact end_ _ (by omega) | exact vus _ (by omega) (by omega) | exact vfp _ cf)) (k := ?_)
        refine r_dup2 hm rfl (k := ?_)
        refine r_iald (hm := hm) (hf := rfl) (hs := (by first | assumption | exact (g1.1 _).trans rfl)) (hi := rfl) (hn := (by omega)) (hv := (by first | exact putI_eq | exact (putI_ne (by omega)).trans (by first | exact putI_eq | exact (putI_ne (by omega)).trans (by first | exact putI_eq | exact (putI_ne (by omega)).trans (by first | exact putI_eq | exact (putI_ne (by omega)).trans (by first | first | assumption | exact g1.2 _ _ _ rfl | exact end_ _ (by omega) | exact vus _ (by omega) (by omega) | exact vfp _ cf) | first | assumption | exact g1.2 _ _ _ rfl | exact end_ _ (by omega) | exact vus _ (by omega) (by omega) | exact vfp _ cf) | first | assumption | exact g1.2 _ _ _ rfl | exact end_ _ (by omega) | exact vus _ (by omega) (by omega) | exact vfp _ cf) | first | assumption | exact g1.2 _ _ _ rfl | exact end_ _ (by omega) | exact vus _ (by omega) (by omega) | exact vfp _ cf) | first | assumption | exact g1.2 _ _ _ rfl | exact end_ _ (by omega) | exact vus _ (by omega) (by omega) | exact vfp _ cf)) (k := ?_)
        refine r_aload_n hm rfl (k := ?_)
        refine r_getR (hm := hm) (hf := rfl) (hd := rfl) (hs := (by first | assumption | exact (g1.1 _).trans rfl)) (hv := (by first | exact putI_eq | exact (putI_ne (by omega)).trans (by first | exact putI_eq | exact (putI_ne (by omega)).trans (by first | exact putI_eq | exact (putI_ne (by omega)).trans (by first | exact putI_eq | exact (putI_ne (by omega)).trans (by first | first | assumption | exact g1.2 _ _ _ rfl | exact end_ _ (by omega) | exact vus _ (by omega) (by omega) | exact vfp _ cf) | first | assumption | exact g1.2 _ _ _ rfl | exact end_ _ (by omega) | exact vus _ (by omega) (by omega) | exact vfp _ cf) | first | assumption | exact g1.2 _ _ _ rfl | exact end_ _ (by omega) | exact vus _ (by omega) (by omega) | exact vfp _ cf) | first | assumption | exact g1.2 _ _ _ rfl | exact end_ _ (by omega) | exact vus _ (by omega) (by omega) | exact vfp _ cf) | first | assumption | exact g1.2 _ _ _ rfl | exact end_ _ (by omega) | exact vus _ (by omega) (by omega) | exact vfp _ cf)) (k := ?_)
        refine r_iload_n hm rfl (k := ?_)
        refine r_iald (hm := hm) (hf := rfl) (hs := (by first | assumption | exact (g1.1 _).trans rfl)) (hi := rfl) (hn := (by omega)) (hv := (by first | exact putI_eq | exact (putI_ne (by omega)).trans (by first | exact putI_eq | exact (putI_ne (by omega)).trans (by first | exact putI_eq | exact (putI_ne (by omega)).trans (by first | exact putI_eq | exact (putI_ne (by omega)).trans (by first | first | assumption | exact g1.2 _ _ _ rfl | exact end_ _ (by omega) | exact vus _ (by omega) (by omega) | exact vfp _ cf) | first | assumption | exact g1.2 _ _ _ rfl | exact end_ _ (by omega) | exact vus _ (by omega) (by omega) | exact vfp _ cf) | first | assumption | exact g1.2 _ _ _ rfl | exact end_ _ (by omega) | exact vus _ (by omega) (by omega) | exact vfp _ cf) | first | assumption | exact g1.2 _ _ _ rfl | exact end_ _ (by omega) | exact vus _ (by omega) (by omega) | exact vfp _ cf) | first | assumption | exact g1.2 _ _ _ rfl | exact end_ _ (by omega) | exact vus _ (by omega) (by omega) | exact vfp _ cf)) (k := ?_)
        refine r_iadd hm rfl (hr := (by omega)) (k := ?_)
        refine r_iast (hm := hm) (hf := rfl) (h28 := (by omega)) (hs := (by first | assumption | exact (g1.1 _).trans rfl)) (hi := rfl) (hn := (by omega)) (k := ?_)
        refine r_aload_n hm rfl (k := ?_)
        refine r_getR (hm := hm) (hf := rfl) (hd := rfl) (hs := (by first | assumption | exact (g1.1 _).trans rfl)) (hv := (by first | exact putI_eq | exact (putI_ne (by omega)).trans (by first | exact putI_eq | exact (putI_ne (by omega)).trans (by first | exact putI_eq | exact (putI_ne (by omega)).trans (by first | exact putI_eq | exact (putI_ne (by omega)).trans (by first | first | assumption | exact g1.2 _ _ _ rfl | exact end_ _ (by omega) | exact vus _ (by omega) (by omega) | exact vfp _ cf) | first | assumption | exact g1.2 _ _ _ rfl | exact end_ _ (by omega) | exact vus _ (by omega) (by omega) | exact vfp _ cf) | first | assumption | exact g1.2 _ _ _ rfl | exact end_ _ (by omega) | exact vus _ (by omega) (by omega) | exact vfp _ cf) | first | assumption | exact g1.2 _ _ _ rfl | exact end_ _ (by omega) | exact vus _ (by omega) (by omega) | exact vfp _ cf) | first | assumption | exact g1.2 _ _ _ rfl | exact end_ _ (by omega) | exact vus _ (by omega) (by omega) | exact vfp _ cf)) (k := ?_)
        refine r_iload_n hm rfl (k := ?_)
        refine r_aload_n hm rfl (k := ?_)
        refine r_getI (hm := hm) (hf := rfl) (hd := rfl) (hs := (by first | assumption | exact (g1.1 _).trans rfl)) (hv := (by first | exact putI_eq | exact (putI_ne (by omega)).trans (by first | exact putI_eq | exact (putI_ne (by omega)).trans (by first | exact putI_eq | exact (putI_ne (by omega)).trans (by first | exact putI_eq | exact (putI_ne (by omega)).trans (by first | first | assumption | exact g1.2 _ _ _ rfl | exact end_ _ (by omega) | exact vus _ (by omega) (by omega) | exact vfp _ cf) | first | assumption | exact g1.2 _ _ _ rfl | exact end_ _ (by omega) | exact vus _ (by omega) (by omega) | exact vfp _ cf) | first | assumption | exact g1.2 _ _ _ rfl | exact end_ _ (by omega) | exact vus _ (by omega) (by omega) | exact vfp _ cf) | first | assumption | exact g1.2 _ _ _ rfl | exact end_ _ (by omega) | exact vus _ (by omega) (by omega) | exact vfp _ cf) | first | assumption | exact g1.2 _ _ _ rfl | exact end_ _ (by omega) | exact vus _ (by omega) (by omega) | exact vfp _ cf)) (k := ?_)
        refine r_iast (hm := hm) (hf := rfl) (h28 := (by omega)) (hs := (by first | assumption | exact (g1.1 _).trans rfl)) (hi := rfl) (hn := (by omega)) (k := ?_)
        refine r_aload_n hm rfl (k := ?_)
        refine r_getR (hm := hm) (hf := rfl) (hd := rfl) (hs := (by first | assumption | exact (g1.1 _).trans rfl)) (hv := (by first | exact putI_eq | exact (putI_ne (by omega)).trans (by first | exact putI_eq | exact (putI_ne (by omega)).trans (by first | exact putI_eq | exact (putI_ne (by omega)).trans (by first | exact putI_eq | exact (putI_ne (by omega)).trans (by first | first | assumption | exact g1.2 _ _ _ rfl | exact end_ _ (by omega) | exact vus _ (by omega) (by omega) | exact vfp _ cf) | first | assumption | exact g1.2 _ _ _ rfl | exact end_ _ (by omega) | exact vus _ (by omega) (by omega) | exact vfp _ cf) | first | assumption | exact g1.2 _ _ _ rfl | exact end_ _ (by omega) | exact vus _ (by omega) (by omega) | exact vfp _ cf) | first | assumption | exact g1.2 _ _ _ rfl | exact end_ _ (by omega) | exact vus _ (by omega) (by omega) | exact vfp _ cf) | first | assumption | exact g1.2 _ _ _ rfl | exact end_ _ (by omega) | exact vus _ (by omega) (by omega) | exact vfp _ cf)) (k := ?_)
        refine r_iload_n hm rfl (k := ?_)
        refine r_iload_n hm rfl (k := ?_)
        refine r_if_ne (t := 96) hm rfl rfl (fun c86 => ?_) (fun c86 => ?_)
        · exfalso; omega
        · refine r_aload_n hm rfl (k := ?_)
          refine r_getI (hm := hm) (hf := rfl) (hd := rfl) (hs := (by first | assumption | exact (g1.1 _).trans rfl)) (hv := (by first | exact putI_eq | exact (putI_ne (by omega)).trans (by first | exact putI_eq | exact (putI_ne (by omega)).trans (by first | exact putI_eq | exact (putI_ne (by omega)).trans (by first | exact putI_eq | exact (putI_ne (by omega)).trans (by first | first | assumption | exact g1.2 _ _ _ rfl | exact end_ _ (by omega) | exact vus _ (by omega) (by omega) | exact vfp _ cf) | first | assumption | exact g1.2 _ _ _ rfl | exact end_ _ (by omega) | exact vus _ (by omega) (by omega) | exact vfp _ cf) | first | assumption | exact g1.2 _ _ _ rfl | exact end_ _ (by omega) | exact vus _ (by omega) (by omega) | exact vfp _ cf) | first | assumption | exact g1.2 _ _ _ rfl | exact end_ _ (by omega) | exact vus _ (by omega) (by omega) | exact vfp _ cf) | first | assumption | exact g1.2 _ _ _ rfl | exact end_ _ (by omega) | exact vus _ (by omega) (by omega) | exact vfp _ cf)) (k := ?_)
          refine r_goto (t := 102) hm rfl (k := ?_)
          refine r_iast (hm := hm) (hf := rfl) (h28 := (by omega)) (hs := (by first | assumption | exact (g1.1 _).trans rfl)) (hi := rfl) (hn := (by omega)) (k := ?_)
          refine r_iinc hm rfl (hr := (by omega)) (k := ?_)
          refine r_goto (t := 12) hm rfl (k := ?_)
          have e9 : llN x H i nl nd q (l + 1) = (tk (sf (rm x H (if l = 0 ∧ 1 < nl then nd 0 + nd 1 else nd l) (llN x H i nl nd q l).1) i) (nd l), upf (llN x H i nl nd q l).2 l ((rm x H (if l = 0 ∧ 1 < nl then nd 0 + nd 1 else nd l) (llN x H i nl nd q l).1).1 : Int)) := by
            show ll1 x H i nl nd l (llN x H i nl nd q l) = _
            unfold ll1
            rw [if_pos (show l = 0 by omega)]
          refine ih (d - 1) (by omega) (l + 1) _ (by omega) (Sm.put (Sm.put (Sm.put S1 (by unfold regW; omega)) (by unfold regW; omega)) (by unfold regW; omega)) ?_ (fun k hk => ?_)
          · rw [e9]
            unfold PgM
            simp (disch := omega) only [putI_fne, putI_feq, upf_ne, upf_eq]
            exact hqB.sf.tk
          · rw [e9]
            simp (disch := omega) only [putI_fne, putI_feq, upf_ne, upf_eq]
            by_cases ek : k = l
            · subst ek
              simp (disch := omega) only [putI_fne, putI_feq, upf_ne, upf_eq]
              first | done | rfl
            · simp (disch := omega) only [putI_fne, putI_feq, upf_ne, upf_eq]
              rw [SX k]; exact eP k (by omega)
      · refine r_aload_n hm rfl (k := ?_)
        refine r_getR (hm := hm) (hf := rfl) (hd := rfl) (hs := (by first | assumption | exact (g1.1 _).trans rfl)) (hv := (by first | exact putI_eq | exact (putI_ne (by omega)).trans (by first | exact putI_eq | exact (putI_ne (by omega)).trans (by first | exact putI_eq | exact (putI_ne (by omega)).trans (by first | exact putI_eq | exact (putI_ne (by omega)).trans (by first | first | assumption | exact g1.2 _ _ _ rfl | exact end_ _ (by omega) | exact vus _ (by omega) (by omega) | exact vfp _ cf) | first | assumption | exact g1.2 _ _ _ rfl | exact end_ _ (by omega) | exact vus _ (by omega) (by omega) | exact vfp _ cf) | first | assumption | exact g1.2 _ _ _ rfl | exact end_ _ (by omega) | exact vus _ (by omega) (by omega) | exact vfp _ cf) | first | assumption | exact g1.2 _ _ _ rfl | exact end_ _ (by omega) | exact vus _ (by omega) (by omega) | exact vfp _ cf) | first | assumption | exact g1.2 _ _ _ rfl | exact end_ _ (by omega) | exact vus _ (by omega) (by omega) | exact vfp _ cf)) (k := ?_)
        refine r_iconst hm rfl (k := ?_)
        refine r_iald (hm := hm) (hf := rfl) (hs := (by first | assumption | exact (g1.1 _).trans rfl)) (kk := 0) (hi := by omega) (hn := (by omega)) (hv := (by first | exact putI_eq | exact (putI_ne (by omega)).trans (by first | exact putI_eq | exact (putI_ne (by omega)).trans (by first | exact putI_eq | exact (putI_ne (by omega)).trans (by first | exact putI_eq | exact (putI_ne (by omega)).trans (by first | first | assumption | exact g1.2 _ _ _ rfl | exact end_ _ (by omega) | exact vus _ (by omega) (by omega) | exact vfp _ cf) | first | assumption | exact g1.2 _ _ _ rfl | exact end_ _ (by omega) | exact vus _ (by omega) (by omega) | exact vfp _ cf) | first | assumption | exact g1.2 _ _ _ rfl | exact end_ _ (by omega) | exact vus _ (by omega) (by omega) | exact vfp _ cf) | first | assumption | exact g1.2 _ _ _ rfl | exact end_ _ (by omega) | exact vus _ (by omega) (by omega) | exact vfp _ cf) | first | assumption | exact g1.2 _ _ _ rfl | exact end_ _ (by omega) | exact vus _ (by omega) (by omega) | exact vfp _ cf)) (k := ?_)
        refine r_aload_n hm rfl (k := ?_)
        refine r_getR (hm := hm) (hf := rfl) (hd := rfl) (hs := (by first | assumption | exact (g1.1 _).trans rfl)) (hv := (by first | exact putI_eq | exact (putI_ne (by omega)).trans (by first | exact putI_eq | exact (putI_ne (by omega)).trans (by first | exact putI_eq | exact (putI_ne (by omega)).trans (by first | exact putI_eq | exact (putI_ne (by omega)).trans (by first | first | assumption | exact g1.2 _ _ _ rfl | exact end_ _ (by omega) | exact vus _ (by omega) (by omega) | exact vfp _ cf) | first | assumption | exact g1.2 _ _ _ rfl | exact end_ _ (by omega) | exact vus _ (by omega) (by omega) | exact vfp _ cf) | first | assumption | exact g1.2 _ _ _ rfl | exact end_ _ (by omega) | exact vus _ (by omega) (by omega) | exact vfp _ cf) | first | assumption | exact g1.2 _ _ _ rfl | exact end_ _ (by omega) | exact vus _ (by omega) (by omega) | exact vfp _ cf) | first | assumption | exact g1.2 _ _ _ rfl | exact end_ _ (by omega) | exact vus _ (by omega) (by omega) | exact vfp _ cf)) (k := ?_)
        refine r_iconst hm rfl (k := ?_)
        refine r_iald (hm := hm) (hf := rfl) (hs := (by first | assumption | exact (g1.1 _).trans rfl)) (kk := 1) (hi := by omega) (hn := (by omega)) (hv := (by first | exact putI_eq | exact (putI_ne (by omega)).trans (by first | exact putI_eq | exact (putI_ne (by omega)).trans (by first | exact putI_eq | exact (putI_ne (by omega)).trans (by first | exact putI_eq | exact (putI_ne (by omega)).trans (by first | first | assumption | exact g1.2 _ _ _ rfl | exact end_ _ (by omega) | exact vus _ (by omega) (by omega) | exact vfp _ cf) | first | assumption | exact g1.2 _ _ _ rfl | exact end_ _ (by omega) | exact vus _ (by omega) (by omega) | exact vfp _ cf) | first | assumption | exact g1.2 _ _ _ rfl | exact end_ _ (by omega) | exact vus _ (by omega) (by omega) | exact vfp _ cf) | first | assumption | exact g1.2 _ _ _ rfl | exact end_ _ (by omega) | exact vus _ (by omega) (by omega) | exact vfp _ cf) | first | assumption | exact g1.2 _ _ _ rfl | exact end_ _ (by omega) | exact vus _ (by omega) (by omega) | exact vfp _ cf)) (k := ?_)
        refine r_iadd hm rfl (hr := (by omega)) (k := ?_)
        refine r_goto (t := 49) hm rfl (k := ?_)
        have en : (if l = 0 ∧ 1 < nl then nd 0 + nd 1 else nd l) = nd 0 + nd 1 := if_pos (by omega)
        have qm := m_room g1 hc1 hc3 hR1 hH hq a1 (by omega) hi (by omega) (n := nd 0 + nd 1) (by omega)
        refine r_callv (j2 := 191) hm rfl rfl rfl rfl rfl rfl (by first | assumption | exact (g1.1 _).trans rfl) (Nat.le_of_ble_eq_true rfl) (Nat.le_of_ble_eq_true rfl) rfl ⟨Nat.le_of_ble_eq_true rfl, Nat.le_of_ble_eq_true rfl, Nat.le_of_ble_eq_true rfl, Nat.le_of_ble_eq_true rfl, Nat.le_of_ble_eq_true rfl⟩ rfl (qm) (fun v9 hB p9 => ?_)
        obtain ⟨SB, hqB, e1⟩ := p9
        subst e1
        rw [← en] at hqB
        obtain ⟨c1, c2, c3⟩ := rm_ok (n := (if l = 0 ∧ 1 < nl then nd 0 + nd 1 else nd l)) hH hi a1
        have c4 := c1.rng (by omega)
        have cf : (rm x H (if l = 0 ∧ 1 < nl then nd 0 + nd 1 else nd l) (llN x H i nl nd q l).1).2.2.1 i ≠ 0 := rmN_fp 61 _ a2
        have SX : ∀ k, hB.2.1 1114 k = h1.2.1 1114 k := fun k => SB.2.2 _ _ (by unfold regW; omega)
        replace S1 : Sm (fun a k => regW a k ∨ a = 1114 ∨ (a = 1109 ∧ k = i)) h hB := S1.trans (SB.mono (fun a k z => Or.inl z))
        have g1 := S1.gg g
        have hc1 := (S1.2.2 1085 12 (by unfold regW; omega)).trans hc
        have hR1 := S1.repM (fun a k q9 => by unfold regW at q9; omega) hR
        have end_ := fun l hl9 => (S1.2.2 1113 l (by unfold regW; omega)).trans (hnd l hl9)
        obtain ⟨v5, v6, v7, v8, vus, vfp, vlp, vwr⟩ := id hqB
        have c6 := c1.1.2.2.1
        change RN 193 52 _ _ _ 0 0 _
        dsimp only [Option.toList, List.nil_append]
        refine r_aload_n hm rfl (k := ?_)
        refine r_getR (hm := hm) (hf := rfl) (hd := rfl) (hs := (by first | assumption | exact (g1.1 _).trans rfl)) (hv := (by first | exact putI_eq | exact (putI_ne (by omega)).trans (by first | exact putI_eq | exact (putI_ne (by omega)).trans (by first | exact putI_eq | exact (putI_ne (by omega)).trans (by first | exact putI_eq | exact (putI_ne (by omega)).trans (by first | first | assumption | exact g1.2 _ _ _ rfl | exact end_ _ (by omega) | exact vus _ (by omega) (by omega) | exact vfp _ cf) | first | assumption | exact g1.2 _ _ _ rfl | exact end_ _ (by omega) | exact vus _ (by omega) (by omega) | exact vfp _ cf) | first | assumption | exact g1.2 _ _ _ rfl | exact end_ _ (by omega) | exact vus _ (by omega) (by omega) | exact vfp _ cf) | first | assumption | exact g1.2 _ _ _ rfl | exact end_ _ (by omega) | exact vus _ (by omega) (by omega) | exact vfp _ cf) | first | assumption | exact g1.2 _ _ _ rfl | exact end_ _ (by omega) | exact vus _ (by omega) (by omega) | exact vfp _ cf)) (k := ?_)
        refine r_aload_n hm rfl (k := ?_)
        refine r_getI (hm := hm) (hf := rfl) (hd := rfl) (hs := (by first | assumption | exact (g1.1 _).trans rfl)) (hv := (by first | exact putI_eq | exact (putI_ne (by omega)).trans (by first | exact putI_eq | exact (putI_ne (by omega)).trans (by first | exact putI_eq | exact (putI_ne (by omega)).trans (by first | exact putI_eq | exact (putI_ne (by omega)).trans (by first | first | assumption | exact g1.2 _ _ _ rfl | exact end_ _ (by omega) | exact vus _ (by omega) (by omega) | exact vfp _ cf) | first | assumption | exact g1.2 _ _ _ rfl | exact end_ _ (by omega) | exact vus _ (by omega) (by omega) | exact vfp _ cf) | first | assumption | exact g1.2 _ _ _ rfl | exact end_ _ (by omega) | exact vus _ (by omega) (by omega) | exact vfp _ cf) | first | assumption | exact g1.2 _ _ _ rfl | exact end_ _ (by omega) | exact vus _ (by omega) (by omega) | exact vfp _ cf) | first | assumption | exact g1.2 _ _ _ rfl | exact end_ _ (by omega) | exact vus _ (by omega) (by omega) | exact vfp _ cf)) (k := ?_)
        refine r_dup2 hm rfl (k := ?_)
        refine r_iald (hm := hm) (hf := rfl) (hs := (by first | assumption | exact (g1.1 _).trans rfl)) (hi := rfl) (hn := (by omega)) (hv := (by first | exact putI_eq | exact (putI_ne (by omega)).trans (by first | exact putI_eq | exact (putI_ne (by omega)).trans (by first | exact putI_eq | exact (putI_ne (by omega)).trans (by first | exact putI_eq | exact (putI_ne (by omega)).trans (by first | first | assumption | exact g1.2 _ _ _ rfl | exact end_ _ (by omega) | exact vus _ (by omega) (by omega) | exact vfp _ cf) | first | assumption | exact g1.2 _ _ _ rfl | exact end_ _ (by omega) | exact vus _ (by omega) (by omega) | exact vfp _ cf) | first | assumption | exact g1.2 _ _ _ rfl | exact end_ _ (by omega) | exact vus _ (by omega) (by omega) | exact vfp _ cf) | first | assumption | exact g1.2 _ _ _ rfl | exact end_ _ (by omega) | exact vus _ (by omega) (by omega) | exact vfp _ cf) | first | assumption | exact g1.2 _ _ _ rfl | exact end_ _ (by omega) | exact vus _ (by omega) (by omega) | exact vfp _ cf)) (k := ?_)
        refine r_aload_n hm rfl (k := ?_)
        refine r_getR (hm := hm) (hf := rfl) (hd := rfl) (hs := (by first | assumption | exact (g1.1 _).trans rfl)) (hv := (by first | exact putI_eq | exact (putI_ne (by omega)).trans (by first | exact putI_eq | exact (putI_ne (by omega)).trans (by first | exact putI_eq | exact (putI_ne (by omega)).trans (by first | exact putI_eq | exact (putI_ne (by omega)).trans (by first | first | assumption | exact g1.2 _ _ _ rfl | exact end_ _ (by omega) | exact vus _ (by omega) (by omega) | exact vfp _ cf) | first | assumption | exact g1.2 _ _ _ rfl | exact end_ _ (by omega) | exact vus _ (by omega) (by omega) | exact vfp _ cf) | first | assumption | exact g1.2 _ _ _ rfl | exact end_ _ (by omega) | exact vus _ (by omega) (by omega) | exact vfp _ cf) | first | assumption | exact g1.2 _ _ _ rfl | exact end_ _ (by omega) | exact vus _ (by omega) (by omega) | exact vfp _ cf) | first | assumption | exact g1.2 _ _ _ rfl | exact end_ _ (by omega) | exact vus _ (by omega) (by omega) | exact vfp _ cf)) (k := ?_)
        refine r_iload_n hm rfl (k := ?_)
        refine r_iald (hm := hm) (hf := rfl) (hs := (by first | assumption | exact (g1.1 _).trans rfl)) (hi := rfl) (hn := (by omega)) (hv := (by first | exact putI_eq | exact (putI_ne (by omega)).trans (by first | exact putI_eq | exact (putI_ne (by omega)).trans (by first | exact putI_eq | exact (putI_ne (by omega)).trans (by first | exact putI_eq | exact (putI_ne (by omega)).trans (by first | first | assumption | exact g1.2 _ _ _ rfl | exact end_ _ (by omega) | exact vus _ (by omega) (by omega) | exact vfp _ cf) | first | assumption | exact g1.2 _ _ _ rfl | exact end_ _ (by omega) | exact vus _ (by omega) (by omega) | exact vfp _ cf) | first | assumption | exact g1.2 _ _ _ rfl | exact end_ _ (by omega) | exact vus _ (by omega) (by omega) | exact vfp _ cf) | first | assumption | exact g1.2 _ _ _ rfl | exact end_ _ (by omega) | exact vus _ (by omega) (by omega) | exact vfp _ cf) | first | assumption | exact g1.2 _ _ _ rfl | exact end_ _ (by omega) | exact vus _ (by omega) (by omega) | exact vfp _ cf)) (k := ?_)
        refine r_iadd hm rfl (hr := (by omega)) (k := ?_)
        refine r_iast (hm := hm) (hf := rfl) (h28 := (by omega)) (hs := (by first | assumption | exact (g1.1 _).trans rfl)) (hi := rfl) (hn := (by omega)) (k := ?_)
        refine r_aload_n hm rfl (k := ?_)
        refine r_getR (hm := hm) (hf := rfl) (hd := rfl) (hs := (by first | assumption | exact (g1.1 _).trans rfl)) (hv := (by first | exact putI_eq | exact (putI_ne (by omega)).trans (by first | exact putI_eq | exact (putI_ne (by omega)).trans (by first | exact putI_eq | exact (putI_ne (by omega)).trans (by first | exact putI_eq | exact (putI_ne (by omega)).trans (by first | first | assumption | exact g1.2 _ _ _ rfl | exact end_ _ (by omega) | exact vus _ (by omega) (by omega) | exact vfp _ cf) | first | assumption | exact g1.2 _ _ _ rfl | exact end_ _ (by omega) | exact vus _ (by omega) (by omega) | exact vfp _ cf) | first | assumption | exact g1.2 _ _ _ rfl | exact end_ _ (by omega) | exact vus _ (by omega) (by omega) | exact vfp _ cf) | first | assumption | exact g1.2 _ _ _ rfl | exact end_ _ (by omega) | exact vus _ (by omega) (by omega) | exact vfp _ cf) | first | assumption | exact g1.2 _ _ _ rfl | exact end_ _ (by omega) | exact vus _ (by omega) (by omega) | exact vfp _ cf)) (k := ?_)
        refine r_iload_n hm rfl (k := ?_)
        refine r_aload_n hm rfl (k := ?_)
        refine r_getI (hm := hm) (hf := rfl) (hd := rfl) (hs := (by first | assumption | exact (g1.1 _).trans rfl)) (hv := (by first | exact putI_eq | exact (putI_ne (by omega)).trans (by first | exact putI_eq | exact (putI_ne (by omega)).trans (by first | exact putI_eq | exact (putI_ne (by omega)).trans (by first | exact putI_eq | exact (putI_ne (by omega)).trans (by first | first | assumption | exact g1.2 _ _ _ rfl | exact end_ _ (by omega) | exact vus _ (by omega) (by omega) | exact vfp _ cf) | first | assumption | exact g1.2 _ _ _ rfl | exact end_ _ (by omega) | exact vus _ (by omega) (by omega) | exact vfp _ cf) | first | assumption | exact g1.2 _ _ _ rfl | exact end_ _ (by omega) | exact vus _ (by omega) (by omega) | exact vfp _ cf) | first | assumption | exact g1.2 _ _ _ rfl | exact end_ _ (by omega) | exact vus _ (by omega) (by omega) | exact vfp _ cf) | first | assumption | exact g1.2 _ _ _ rfl | exact end_ _ (by omega) | exact vus _ (by omega) (by omega) | exact vfp _ cf)) (k := ?_)
        refine r_iast (hm := hm) (hf := rfl) (h28 := (by omega)) (hs := (by first | assumption | exact (g1.1 _).trans rfl)) (hi := rfl) (hn := (by omega)) (k := ?_)
        refine r_aload_n hm rfl (k := ?_)
        refine r_getR (hm := hm) (hf := rfl) (hd := rfl) (hs := (by first | assumption | exact (g1.1 _).trans rfl)) (hv := (by first | exact putI_eq | exact (putI_ne (by omega)).trans (by first | exact putI_eq | exact (putI_ne (by omega)).trans (by first | exact putI_eq | exact (putI_ne (by omega)).trans (by first | exact putI_eq | exact (putI_ne (by omega)).trans (by first | first | assumption | exact g1.2 _ _ _ rfl | exact end_ _ (by omega) | exact vus _ (by omega) (by omega) | exact vfp _ cf) | first | assumption | exact g1.2 _ _ _ rfl | exact end_ _ (by omega) | exact vus _ (by omega) (by omega) | exact vfp _ cf) | first | assumption | exact g1.2 _ _ _ rfl | exact end_ _ (by omega) | exact vus _ (by omega) (by omega) | exact vfp _ cf) | first | assumption | exact g1.2 _ _ _ rfl | exact end_ _ (by omega) | exact vus _ (by omega) (by omega) | exact vfp _ cf) | first | assumption | exact g1.2 _ _ _ rfl | exact end_ _ (by omega) | exact vus _ (by omega) (by omega) | exact vfp _ cf)) (k := ?_)
        refine r_iload_n hm rfl (k := ?_)
        refine r_iload_n hm rfl (k := ?_)
        refine r_if_ne (t := 96) hm rfl rfl (fun c86 => ?_) (fun c86 => ?_)
        · exfalso; omega
        · refine r_aload_n hm rfl (k := ?_)
          refine r_getI (hm := hm) (hf := rfl) (hd := rfl) (hs := (by first | assumption | exact (g1.1 _).trans rfl)) (hv := (by first | exact putI_eq | exact (putI_ne (by omega)).trans (by first | exact putI_eq | exact (putI_ne (by omega)).trans (by first | exact putI_eq | exact (putI_ne (by omega)).trans (by first | exact putI_eq | exact (putI_ne (by omega)).trans (by first | first | assumption | exact g1.2 _ _ _ rfl | exact end_ _ (by omega) | exact vus _ (by omega) (by omega) | exact vfp _ cf) | first | assumption | exact g1.2 _ _ _ rfl | exact end_ _ (by omega) | exact vus _ (by omega) (by omega) | exact vfp _ cf) | first | assumption | exact g1.2 _ _ _ rfl | exact end_ _ (by omega) | exact vus _ (by omega) (by omega) | exact vfp _ cf) | first | assumption | exact g1.2 _ _ _ rfl | exact end_ _ (by omega) | exact vus _ (by omega) (by omega) | exact vfp _ cf) | first | assumption | exact g1.2 _ _ _ rfl | exact end_ _ (by omega) | exact vus _ (by omega) (by omega) | exact vfp _ cf)) (k := ?_)
          refine r_goto (t := 102) hm rfl (k := ?_)
          refine r_iast (hm := hm) (hf := rfl) (h28 := (by omega)) (hs := (by first | assumption | exact (g1.1 _).trans rfl)) (hi := rfl) (hn := (by omega)) (k := ?_)
          refine r_iinc hm rfl (hr := (by omega)) (k := ?_)
          refine r_goto (t := 12) hm rfl (k := ?_)
          have e9 : llN x H i nl nd q (l + 1) = (tk (sf (rm x H (if l = 0 ∧ 1 < nl then nd 0 + nd 1 else nd l) (llN x H i nl nd q l).1) i) (nd l), upf (llN x H i nl nd q l).2 l ((rm x H (if l = 0 ∧ 1 < nl then nd 0 + nd 1 else nd l) (llN x H i nl nd q l).1).1 : Int)) := by
            show ll1 x H i nl nd l (llN x H i nl nd q l) = _
            unfold ll1
            rw [if_pos (show l = 0 by omega)]
          refine ih (d - 1) (by omega) (l + 1) _ (by omega) (Sm.put (Sm.put (Sm.put S1 (by unfold regW; omega)) (by unfold regW; omega)) (by unfold regW; omega)) ?_ (fun k hk => ?_)
          · rw [e9]
            unfold PgM
            simp (disch := omega) only [putI_fne, putI_feq, upf_ne, upf_eq]
            exact hqB.sf.tk
          · rw [e9]
            simp (disch := omega) only [putI_fne, putI_feq, upf_ne, upf_eq]
            by_cases ek : k = l
            · subst ek
              simp (disch := omega) only [putI_fne, putI_feq, upf_ne, upf_eq]
              first | done | rfl
            · simp (disch := omega) only [putI_fne, putI_feq, upf_ne, upf_eq]
              rw [SX k]; exact eP k (by omega)
