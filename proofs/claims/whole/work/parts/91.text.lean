/-! constructors: a text, the reference -/
/-- what a text's new cells hold, q items made -/
def gT (x q : Nat) (p k : Nat) : Option Nat := if p = 0 then (if k < q then some (x + 4 + 4 * k) else none) else if p = 1 then (if k = 0 then some (x + 3) else none) else if 3 ≤ p ∧ (p - 3) % 4 = 0 ∧ k < 3 then some (x + 1 + p + 1 + k) else none
set_option maxRecDepth 8000 in
theorem k_Text {h : Hp} {x : Nat} (hl : h.1.length = x + 1) (hx : h.1[x]? = some (1, 3)) (h28 : 28 ≤ x) : RN 2 0 [some (.inr (.inr (some (x)))), none] [] h 0 0 (fun v h2 => Ds h h2 (x + 1) x 243 (fun q => shT (q + 1)) (fun k => if k < 2 then some (x + 1 + k) else none) (fun k => if k = 2 then some 0 else none) (gT x 60) (fun q k => if q = 2 ∧ k < 13 then some (sty0 k) else none) ∧ v = none) := by
  have hm : mrec 2 = some nM2 := rfl
  have D := Ds.z (sh := fun _ => none) (G := fun _ _ => none) (Z := fun _ _ => none) hl (Nat.lt_succ_self x)
  refine r_aload_n hm rfl (k := ?_)
  refine r_objinit hm rfl rfl (by omega) (by decide) (Nat.le_of_ble_eq_true rfl) ?_
  refine r_aload_n hm rfl (k := ?_)
  refine r_bipush hm rfl (k := ?_)
  refine r_newq 110 hm rfl (Or.inl ⟨rfl, rfl⟩) (by decide) (by decide) (Nat.le_of_ble_eq_true rfl) (Nat.le_of_ble_eq_true rfl) ?_
  change RN 2 10 _ _ _ 1 60 _
  rw [D.len]
  refine r_putR (hm := hm) (hf := rfl) (hd := rfl) (hs := ((alc_s (by rw [D.len]; omega)).trans (D.shx.trans hx))) (hfin := Or.inr ⟨rfl, rfl⟩) (h27 := (fun z => by injection z with z; omega)) (k := ?_)
  refine RN.abs (fun h1 => Ds h h1 (x + 1) x _ _ _ _ _ _) (D.arr rfl) (fun h1 D => ?_)
  refine r_aload_n hm rfl (k := ?_)
  refine r_new hm rfl rfl rfl (Nat.le_of_ble_eq_true rfl) (Nat.le_of_ble_eq_true rfl) ?_
  change RN 2 17 _ _ _ 2 61 _
  rw [D.len]
  refine r_dup hm rfl (k := ?_)
  refine r_calli (j2 := 3) hm rfl rfl rfl rfl rfl rfl rfl (by omega) (Nat.le_of_ble_eq_true rfl) (Nat.le_of_ble_eq_true rfl) rfl ⟨(Nat.le_of_ble_eq_true rfl), (Nat.le_of_ble_eq_true rfl), (Nat.le_of_ble_eq_true rfl), (Nat.le_of_ble_eq_true rfl), (Nat.le_of_ble_eq_true rfl)⟩ rfl (k_Style (x := x + 1 + (0 + 1)) (by rw [alc_len, D.len]) (by rw [← D.len]; exact alc_s2) (by omega)) (fun v9 h9 p9 => ?_)
  obtain ⟨E, e1⟩ := p9
  subst e1
  change RN 2 21 _ _ _ 3 74 _
  dsimp only [Option.toList, List.nil_append]
  refine r_putR (hm := hm) (hf := rfl) (hd := rfl) (hs := ((E.2.2.2.1 _ (by omega)).trans ((alc_s (by rw [D.len]; omega)).trans (D.shx.trans hx)))) (hfin := Or.inr ⟨rfl, rfl⟩) (h27 := (fun z => by injection z with z; omega)) (k := ?_)
  refine RN.abs (fun h1 => Ds h h1 (x + 1) x _ _ _ _ _ _) (D.obj rfl E) (fun h1 D => ?_)
  refine r_aload_n hm rfl (k := ?_)
  refine r_iconst hm rfl (k := ?_)
  refine r_putI (hm := hm) (hf := rfl) (hd := rfl) (hs := (D.shx.trans hx)) (hfin := Or.inl rfl) (hz := fun q9 => absurd q9 (by decide)) (k := ?_)
  refine RN.abs (fun h1 => Ds h h1 (x + 1) x _ _ _ _ _ _) (D.int) (fun h1 D => ?_)
  refine r_iconst hm rfl (k := ?_)
  refine r_istore_n hm rfl (k := ?_)
  suffices LP : ∀ (d q : Nat) (h1 : Hp), q + d = 60 → Ds h h1 (x + 1) x (3 + 4 * q) (fun q => shT (q + 1)) (fun k => if k < 2 then some (x + 1 + k) else none) (fun k => if k = 2 then some 0 else none) (gT x q) (fun q k => if q = 2 ∧ k < 13 then some (sty0 k) else none) → RN 2 31 [some (.inr (.inr (some (x)))), some (.inl (q : Int))] [] h1 (3 + 4 * q) (74 + 68 * q) (fun v h2 => Ds h h2 (x + 1) x 243 (fun q => shT (q + 1)) (fun k => if k < 2 then some (x + 1 + k) else none) (fun k => if k = 2 then some 0 else none) (gT x 60) (fun q k => if q = 2 ∧ k < 13 then some (sty0 k) else none) ∧ v = none) from LP 60 0 h1 (by omega) (by
    refine D.w (fun q hq => ?_) (fun k b e => ?_) (fun k z e => ?_) (fun q k b hq e => ?_) (fun q k z hq e => ?_)
    · have c : q = 0 ∨ q = 1 ∨ q = 2 := by omega
      rcases c with rfl | rfl | rfl <;> rfl
    · by_cases hk : k < 2
      · have c : k = 0 ∨ k = 1 := by omega
        rcases c with rfl | rfl <;> exact e
      · rw [if_neg hk] at e; cases e
    · by_cases hk : k = 2
      · subst hk; exact e
      · rw [if_neg hk] at e; cases e
    · have c : q = 0 ∨ q = 1 ∨ q = 2 := by omega
      rcases c with rfl | rfl | rfl
      · have e2 : (if k < 0 then some (x + 4 + 4 * k) else none) = some b := e
        rw [if_neg (Nat.not_lt_zero _)] at e2; cases e2
      · exact e
      · unfold gT at e
        rw [if_neg (by omega), if_neg (by omega), if_neg (by omega)] at e; cases e
    · have c : q = 0 ∨ q = 1 ∨ q = 2 := by omega
      rcases c with rfl | rfl | rfl
      · rw [if_neg (by omega)] at e; cases e
      · rw [if_neg (by omega)] at e; cases e
      · by_cases hk : k < 13
        · rw [if_pos ⟨rfl, hk⟩] at e
          show (if k < 13 then some (sty0 k) else none) = some z
          rw [if_pos hk]; exact e
        · rw [if_neg (fun z => hk z.2)] at e; cases e)
  refine fun d => Nat.strongRecOn d (fun d ih => ?_)
  intro q h1 hd D
  refine r_iload_n hm rfl (k := ?_)
  refine r_bipush hm rfl (k := ?_)
  refine r_icmp_ge (t := 56) hm rfl rfl (fun c34 => ?_) (fun c34 => ?_)
  · have q60 : q = 60 := by omega
    subst q60
    refine r_return hm rfl rfl (show 3 + 4 * 60 ≤ 243 by omega) (show 74 + 68 * 60 ≤ 4154 by omega) ?_
    exact ⟨D, rfl⟩
  · refine r_aload_n hm rfl (k := ?_)
    refine r_getR (hm := hm) (hf := rfl) (hd := rfl) (hs := (D.shx.trans hx)) (hv := D.2.2.2.2.2.2.1 0 (x + 1 + 0) rfl) (k := ?_)
    refine r_iload_n hm rfl (k := ?_)
    refine r_new hm rfl rfl rfl (show 3 + 4 * q + 1 ≤ 243 by omega) (show 74 + 68 * q + 8 ≤ 4154 by omega) ?_
    change RN 2 45 _ _ _ (3 + 4 * q + 1) (74 + 68 * q + 8) _
    rw [D.len]
    refine r_dup hm rfl (k := ?_)
    refine r_calli (j2 := 8) hm rfl rfl rfl rfl rfl rfl rfl (by omega) (Nat.le_of_ble_eq_true rfl) (Nat.le_of_ble_eq_true rfl) rfl ⟨(Nat.le_of_ble_eq_true rfl), (Nat.le_of_ble_eq_true rfl), (Nat.le_of_ble_eq_true rfl), (show 3 + 4 * q + 1 + 3 ≤ 243 by omega), (show 74 + 68 * q + 8 + 60 ≤ 4154 by omega)⟩ rfl (k_Item (x := x + 1 + (3 + 4 * q)) (by rw [alc_len, D.len]) (by rw [← D.len]; exact alc_s2) (by omega)) (fun v9 h9 p9 => ?_)
    obtain ⟨E, e1⟩ := p9
    subst e1
    change RN 2 49 _ _ _ (3 + 4 * q + 1 + 3) (74 + 68 * q + 8 + 60) _
    dsimp only [Option.toList, List.nil_append]
    refine r_aast (hm := hm) (hf := rfl) (hs := ((E.2.2.2.1 _ (by omega)).trans ((alc_s (by rw [D.len]; omega)).trans (D.2.2.2.2.1 0 (by omega))))) (hsb := ((E.2.2.2.1 _ (by omega)).trans (by rw [← D.len]; exact alc_s2))) (hkd := Or.inl ⟨rfl, rfl⟩) (hi := rfl) (hn := (by omega)) (k := ?_)
    refine r_iinc hm rfl (hr := (by omega)) (k := ?_)
    refine r_goto (t := 31) hm rfl (k := ?_)
    have D2 := D.put (i := q) (p := 0) (by omega) rfl E
    have b9 := ih (d - 1) (by omega) (q + 1) _ (by omega) (by
      rw [show 3 + 4 * (q + 1) = 3 + 4 * q + 1 + 3 by omega]
      refine D2.w (fun p hp => ?_) (fun k b e => e) (fun k z e => e) (fun p k b hp e => ?_) (fun p k z hp e => ?_)
      · by_cases c1 : p < 3 + 4 * q
        · rw [if_pos c1]
        · rw [if_neg c1]
          by_cases c2 : p = 3 + 4 * q
          · rw [if_pos c2, c2, show 3 + 4 * q + 1 = 4 + 4 * q + 0 by omega, shT_i 0 (by omega)]; rfl
          · rw [if_neg c2, show p + 1 = 4 + 4 * q + (p - (3 + 4 * q)) by omega, shT_i _ (by omega), if_neg (by omega)]
            have c3 : p - (3 + 4 * q) - 1 = 0 ∨ p - (3 + 4 * q) - 1 = 1 ∨ p - (3 + 4 * q) - 1 = 2 := by omega
            rcases c3 with c3 | c3 | c3 <;> rw [c3] <;> rfl
      · unfold gT at e ⊢
        by_cases c0 : p = 0
        · rw [if_pos c0] at e
          by_cases c1 : k < q + 1
          · rw [if_pos c1] at e
            by_cases c2 : k = q
            · rw [if_pos ⟨c0, c2⟩, ← e, c2]; congr 1; omega
            · rw [if_neg (fun z => c2 z.2), if_pos (by omega), if_pos c0, if_pos (by omega)]; exact e
          · rw [if_neg c1] at e; cases e
        · rw [if_neg c0] at e
          rw [if_neg (fun z => c0 z.1)]
          by_cases c1 : p < 3 + 4 * q
          · rw [if_pos c1, if_neg c0]; exact e
          · rw [if_neg c1]
            rw [if_neg (by omega)] at e
            by_cases c4 : 3 ≤ p ∧ (p - 3) % 4 = 0 ∧ k < 3
            · rw [if_pos c4] at e
              have c2 : p = 3 + 4 * q := by omega
              rw [if_pos c2, ← e, c2]
              have c5 : k = 0 ∨ k = 1 ∨ k = 2 := by omega
              rcases c5 with rfl | rfl | rfl <;> rfl
            · rw [if_neg c4] at e; cases e
      · by_cases c1 : p = 2 ∧ k < 13
        · rw [if_pos (by omega)]; exact e
        · rw [if_neg c1] at e; cases e)
    rw [show 3 + 4 * (q + 1) = 3 + 4 * q + 1 + 3 by omega, show 74 + 68 * (q + 1) = 74 + 68 * q + 8 + 60 by omega] at b9
    exact b9
set_option maxRecDepth 8000 in
theorem m_first {h : Hp} {x c9 : Nat} (hx : h.1[x]? = some (10, 57)) (hc : h.1[c9]? = some (100, 52)) (hr : h.2.2.1 x 10 = some c9) (h28 : 28 ≤ c9) : RN 160 0 [some (.inr (.inr (some (x)))), some (.inl 39), none] [] h 0 0 (fun v h2 => Sm (fun a _ => a = c9) h h2 ∧ (∀ k, k < 13 → h2.2.1 c9 (39 + k) = sty0 k) ∧ v = none) := by
  have hm : mrec 160 = some nM160 := rfl
  refine r_iconst hm rfl (k := ?_)
  refine r_istore_n hm rfl (k := ?_)
  suffices LP : ∀ (d k : Nat) (h1 : Hp), k + d = 13 → Sm (fun a _ => a = c9) h h1 → (∀ q, q < k → h1.2.1 c9 (39 + q) = sty0 q) → RN 160 2 [some (.inr (.inr (some (x)))), some (.inl 39), some (.inl (k : Int))] [] h1 0 0 (fun v h2 => Sm (fun a _ => a = c9) h h2 ∧ (∀ k, k < 13 → h2.2.1 c9 (39 + k) = sty0 k) ∧ v = none) from LP 13 0 h (by omega) Sm.refl (fun q hq => absurd hq (Nat.not_lt_zero _))
  refine fun d => Nat.strongRecOn d (fun d ih => ?_)
  intro k h1 hd S1 eS
  have a1 : h1.1[x]? = some (10, 57) := by rw [S1.1]; exact hx
  have a2 : h1.1[c9]? = some (100, 52) := by rw [S1.1]; exact hc
  have a3 : h1.2.2.1 x 10 = some c9 := by rw [S1.2.1]; exact hr
  refine r_iload_n hm rfl (k := ?_)
  refine r_bipush hm rfl (k := ?_)
  refine r_icmp_ge (t := 58) hm rfl rfl (fun c5 => ?_) (fun c5 => ?_)
  · refine r_return hm rfl rfl (Nat.le_of_ble_eq_true rfl) (Nat.le_of_ble_eq_true rfl) ?_
    have k13 : k = 13 := by omega
    subst k13
    exact ⟨S1, eS, rfl⟩
  · refine r_aload_n hm rfl (k := ?_)
    refine r_getR (hm := hm) (hf := rfl) (hd := rfl) (hs := (by first | exact a1 | exact a2)) (hv := (by first | exact a3)) (k := ?_)
    refine r_iload_n hm rfl (k := ?_)
    refine r_iload_n hm rfl (k := ?_)
    refine r_iadd hm rfl (hr := (by omega)) (k := ?_)
    refine r_iload_n hm rfl (k := ?_)
    refine r_if_ne (t := 24) hm rfl rfl (fun c16 => ?_) (fun c16 => ?_)
    · refine r_iload_n hm rfl (k := ?_)
      refine r_iconst hm rfl (k := ?_)
      refine r_icmp_ne (t := 34) hm rfl rfl (fun c26 => ?_) (fun c26 => ?_)
      · refine r_iload_n hm rfl (k := ?_)
        refine r_bipush hm rfl (k := ?_)
        refine r_icmp_lt (t := 50) hm rfl rfl (fun c37 => ?_) (fun c37 => ?_)
        · refine r_iconst hm rfl (k := ?_)
          refine r_iast (hm := hm) (hf := rfl) (h28 := (by omega)) (hs := (by first | exact a1 | exact a2)) (kk := 39 + k) (hi := by omega) (hn := (by omega)) (k := ?_)
          refine r_iinc hm rfl (hr := (by omega)) (k := ?_)
          refine r_goto (t := 2) hm rfl (k := ?_)
          have ek : sty0 k = 0 := by unfold sty0; (repeat' split) <;> omega
          exact ih (d - 1) (by omega) (k + 1) _ (by omega) (Sm.put S1 rfl) (fun q hq => by
            by_cases e : q = k
            · rw [e, putI_eq, ek]
            · rw [putI_ne (by omega)]; exact eS q (by omega))
        · refine r_iload_n hm rfl (k := ?_)
          refine r_bipush hm rfl (k := ?_)
          refine r_icmp_ge (t := 50) hm rfl rfl (fun c43 => ?_) (fun c43 => ?_)
          · refine r_iconst hm rfl (k := ?_)
            refine r_iast (hm := hm) (hf := rfl) (h28 := (by omega)) (hs := (by first | exact a1 | exact a2)) (kk := 39 + k) (hi := by omega) (hn := (by omega)) (k := ?_)
            refine r_iinc hm rfl (hr := (by omega)) (k := ?_)
            refine r_goto (t := 2) hm rfl (k := ?_)
            have ek : sty0 k = 0 := by unfold sty0; (repeat' split) <;> omega
            exact ih (d - 1) (by omega) (k + 1) _ (by omega) (Sm.put S1 rfl) (fun q hq => by
              by_cases e : q = k
              · rw [e, putI_eq, ek]
              · rw [putI_ne (by omega)]; exact eS q (by omega))
          · refine r_iconst hm rfl (k := ?_)
            refine r_goto (t := 51) hm rfl (k := ?_)
            refine r_iast (hm := hm) (hf := rfl) (h28 := (by omega)) (hs := (by first | exact a1 | exact a2)) (kk := 39 + k) (hi := by omega) (hn := (by omega)) (k := ?_)
            refine r_iinc hm rfl (hr := (by omega)) (k := ?_)
            refine r_goto (t := 2) hm rfl (k := ?_)
            have ek : sty0 k = 1 := by unfold sty0; (repeat' split) <;> omega
            exact ih (d - 1) (by omega) (k + 1) _ (by omega) (Sm.put S1 rfl) (fun q hq => by
              by_cases e : q = k
              · rw [e, putI_eq, ek]
              · rw [putI_ne (by omega)]; exact eS q (by omega))
      · refine r_bipush hm rfl (k := ?_)
        refine r_goto (t := 51) hm rfl (k := ?_)
        refine r_iast (hm := hm) (hf := rfl) (h28 := (by omega)) (hs := (by first | exact a1 | exact a2)) (kk := 39 + k) (hi := by omega) (hn := (by omega)) (k := ?_)
        refine r_iinc hm rfl (hr := (by omega)) (k := ?_)
        refine r_goto (t := 2) hm rfl (k := ?_)
        have ek : sty0 k = 40 := by unfold sty0; (repeat' split) <;> omega
        exact ih (d - 1) (by omega) (k + 1) _ (by omega) (Sm.put S1 rfl) (fun q hq => by
          by_cases e : q = k
          · rw [e, putI_eq, ek]
          · rw [putI_ne (by omega)]; exact eS q (by omega))
    · refine r_bipush hm rfl (k := ?_)
      refine r_goto (t := 51) hm rfl (k := ?_)
      refine r_iast (hm := hm) (hf := rfl) (h28 := (by omega)) (hs := (by first | exact a1 | exact a2)) (kk := 39 + k) (hi := by omega) (hn := (by omega)) (k := ?_)
      refine r_iinc hm rfl (hr := (by omega)) (k := ?_)
      refine r_goto (t := 2) hm rfl (k := ?_)
      have ek : sty0 k = 20 := by unfold sty0; (repeat' split) <;> omega
      exact ih (d - 1) (by omega) (k + 1) _ (by omega) (Sm.put S1 rfl) (fun q hq => by
        by_cases e : q = k
        · rw [e, putI_eq, ek]
        · rw [putI_ne (by omega)]; exact eS q (by omega))
set_option maxHeartbeats 4000000 in
set_option maxRecDepth 8000 in
theorem k_M {h : Hp} {x : Nat} (hl : h.1.length = x + 1) (hx : h.1[x]? = some (10, 57)) (h28 : 28 ≤ x) : RN 159 0 [some (.inr (.inr (some (x))))] [] h 0 0 (fun v h2 => Ds h h2 (x + 1) x 41 (fun q => shMod[q + 1]?) (fun k => ([some (x + 1 + 0), some (x + 1 + 1), some (x + 1 + 2), some (x + 1 + 3), some (x + 1 + 4), some (x + 1 + 5), some (x + 1 + 6), some (x + 1 + 7), some (x + 1 + 8), some (x + 1 + 9), some (x + 1 + 10), none, none, some (x + 1 + 11), some (x + 1 + 12), some (x + 1 + 13), some (x + 1 + 14), some (x + 1 + 15), some (x + 1 + 16), some (x + 1 + 17), some (x + 1 + 18), some (x + 1 + 19), some (x + 1 + 20), some (x + 1 + 21), some (x + 1 + 22), some (x + 1 + 23), some (x + 1 + 24), some (x + 1 + 25), none, none, none, none, some (x + 1 + 26), some (x + 1 + 27), some (x + 1 + 28), none, none, none, some (x + 1 + 29), some (x + 1 + 30), some (x + 1 + 31), some (x + 1 + 32), some (x + 1 + 33), some (x + 1 + 34), some (x + 1 + 35), some (x + 1 + 36), some (x + 1 + 37), some (x + 1 + 38), some (x + 1 + 39), none, none, none, some (x + 1 + 40)] : List (Option Nat)).getD k none) (fun k => if k = 50 then some (-1) else if k = 11 then some (h.2.1 x 11) else if k = 49 then some (h.2.1 x 49) else none) (fun _ _ => none) (fun q k => if q = 10 then (if 39 ≤ k ∧ k < 52 then some (sty0 (k - 39)) else none) else if q < 2 then some 0 else none) ∧ v = none) := by
  have hm : mrec 159 = some nM159 := rfl
  have D := Ds.z (sh := fun _ => none) (G := fun _ _ => none) (Z := fun _ _ => none) hl (Nat.lt_succ_self x)
  refine r_aload_n hm rfl (k := ?_)
  refine r_objinit hm rfl rfl (by omega) (by decide) (Nat.le_of_ble_eq_true rfl) ?_
  refine r_aload_n hm rfl (k := ?_)
  refine r_iconst hm rfl (k := ?_)
  refine r_newi hm rfl (by decide) (by decide) (Nat.le_of_ble_eq_true rfl) (Nat.le_of_ble_eq_true rfl) ?_
  change RN 159 8 _ _ _ 1 4 _
  rw [D.len]
  refine r_putR (hm := hm) (hf := rfl) (hd := rfl) (hs := ((alc_s (by rw [D.len]; omega)).trans (D.shx.trans hx))) (hfin := Or.inr ⟨rfl, rfl⟩) (h27 := (fun z => by injection z with z; omega)) (k := ?_)
  refine RN.abs (fun h1 => Ds h h1 (x + 1) x _ _ _ _ _ _) (D.arr rfl) (fun h1 D => ?_)
  refine r_aload_n hm rfl (k := ?_)
  refine r_iconst hm rfl (k := ?_)
  refine r_newz hm rfl (by decide) (by decide) (Nat.le_of_ble_eq_true rfl) (Nat.le_of_ble_eq_true rfl) ?_
  change RN 159 15 _ _ _ 2 8 _
  rw [D.len]
  refine r_putR (hm := hm) (hf := rfl) (hd := rfl) (hs := ((alc_s (by rw [D.len]; omega)).trans (D.shx.trans hx))) (hfin := Or.inr ⟨rfl, rfl⟩) (h27 := (fun z => by injection z with z; omega)) (k := ?_)
  refine RN.abs (fun h1 => Ds h h1 (x + 1) x _ _ _ _ _ _) (D.arr rfl) (fun h1 D => ?_)
  refine r_aload_n hm rfl (k := ?_)
  refine r_sipush hm rfl (k := ?_)
  refine r_newi hm rfl (by decide) (by decide) (Nat.le_of_ble_eq_true rfl) (Nat.le_of_ble_eq_true rfl) ?_
  change RN 159 24 _ _ _ 3 248 _
  rw [D.len]
  refine r_putR (hm := hm) (hf := rfl) (hd := rfl) (hs := ((alc_s (by rw [D.len]; omega)).trans (D.shx.trans hx))) (hfin := Or.inr ⟨rfl, rfl⟩) (h27 := (fun z => by injection z with z; omega)) (k := ?_)
  refine RN.abs (fun h1 => Ds h h1 (x + 1) x _ _ _ _ _ _) (D.arr rfl) (fun h1 D => ?_)
  refine r_aload_n hm rfl (k := ?_)
  refine r_sipush hm rfl (k := ?_)
  refine r_newi hm rfl (by decide) (by decide) (Nat.le_of_ble_eq_true rfl) (Nat.le_of_ble_eq_true rfl) ?_
  change RN 159 33 _ _ _ 4 488 _
  rw [D.len]
  refine r_putR (hm := hm) (hf := rfl) (hd := rfl) (hs := ((alc_s (by rw [D.len]; omega)).trans (D.shx.trans hx))) (hfin := Or.inr ⟨rfl, rfl⟩) (h27 := (fun z => by injection z with z; omega)) (k := ?_)
  refine RN.abs (fun h1 => Ds h h1 (x + 1) x _ _ _ _ _ _) (D.arr rfl) (fun h1 D => ?_)
  refine r_aload_n hm rfl (k := ?_)
  refine r_sipush hm rfl (k := ?_)
  refine r_newi hm rfl (by decide) (by decide) (Nat.le_of_ble_eq_true rfl) (Nat.le_of_ble_eq_true rfl) ?_
  change RN 159 42 _ _ _ 5 728 _
  rw [D.len]
  refine r_putR (hm := hm) (hf := rfl) (hd := rfl) (hs := ((alc_s (by rw [D.len]; omega)).trans (D.shx.trans hx))) (hfin := Or.inr ⟨rfl, rfl⟩) (h27 := (fun z => by injection z with z; omega)) (k := ?_)
  refine RN.abs (fun h1 => Ds h h1 (x + 1) x _ _ _ _ _ _) (D.arr rfl) (fun h1 D => ?_)
  refine r_aload_n hm rfl (k := ?_)
  refine r_sipush hm rfl (k := ?_)
  refine r_newi hm rfl (by decide) (by decide) (Nat.le_of_ble_eq_true rfl) (Nat.le_of_ble_eq_true rfl) ?_
  change RN 159 51 _ _ _ 6 968 _
  rw [D.len]
  refine r_putR (hm := hm) (hf := rfl) (hd := rfl) (hs := ((alc_s (by rw [D.len]; omega)).trans (D.shx.trans hx))) (hfin := Or.inr ⟨rfl, rfl⟩) (h27 := (fun z => by injection z with z; omega)) (k := ?_)
  refine RN.abs (fun h1 => Ds h h1 (x + 1) x _ _ _ _ _ _) (D.arr rfl) (fun h1 D => ?_)
  refine r_aload_n hm rfl (k := ?_)
  refine r_sipush hm rfl (k := ?_)
  refine r_newi hm rfl (by decide) (by decide) (Nat.le_of_ble_eq_true rfl) (Nat.le_of_ble_eq_true rfl) ?_
  change RN 159 60 _ _ _ 7 1208 _
  rw [D.len]
  refine r_putR (hm := hm) (hf := rfl) (hd := rfl) (hs := ((alc_s (by rw [D.len]; omega)).trans (D.shx.trans hx))) (hfin := Or.inr ⟨rfl, rfl⟩) (h27 := (fun z => by injection z with z; omega)) (k := ?_)
  refine RN.abs (fun h1 => Ds h h1 (x + 1) x _ _ _ _ _ _) (D.arr rfl) (fun h1 D => ?_)
  refine r_aload_n hm rfl (k := ?_)
  refine r_sipush hm rfl (k := ?_)
  refine r_newi hm rfl (by decide) (by decide) (Nat.le_of_ble_eq_true rfl) (Nat.le_of_ble_eq_true rfl) ?_
  change RN 159 69 _ _ _ 8 6008 _
  rw [D.len]
  refine r_putR (hm := hm) (hf := rfl) (hd := rfl) (hs := ((alc_s (by rw [D.len]; omega)).trans (D.shx.trans hx))) (hfin := Or.inr ⟨rfl, rfl⟩) (h27 := (fun z => by injection z with z; omega)) (k := ?_)
  refine RN.abs (fun h1 => Ds h h1 (x + 1) x _ _ _ _ _ _) (D.arr rfl) (fun h1 D => ?_)
  refine r_aload_n hm rfl (k := ?_)
  refine r_sipush hm rfl (k := ?_)
  refine r_newi hm rfl (by decide) (by decide) (Nat.le_of_ble_eq_true rfl) (Nat.le_of_ble_eq_true rfl) ?_
  change RN 159 78 _ _ _ 9 10808 _
  rw [D.len]
  refine r_putR (hm := hm) (hf := rfl) (hd := rfl) (hs := ((alc_s (by rw [D.len]; omega)).trans (D.shx.trans hx))) (hfin := Or.inr ⟨rfl, rfl⟩) (h27 := (fun z => by injection z with z; omega)) (k := ?_)
  refine RN.abs (fun h1 => Ds h h1 (x + 1) x _ _ _ _ _ _) (D.arr rfl) (fun h1 D => ?_)
  refine r_aload_n hm rfl (k := ?_)
  refine r_sipush hm rfl (k := ?_)
  refine r_newi hm rfl (by decide) (by decide) (Nat.le_of_ble_eq_true rfl) (Nat.le_of_ble_eq_true rfl) ?_
  change RN 159 87 _ _ _ 10 15608 _
  rw [D.len]
  refine r_putR (hm := hm) (hf := rfl) (hd := rfl) (hs := ((alc_s (by rw [D.len]; omega)).trans (D.shx.trans hx))) (hfin := Or.inr ⟨rfl, rfl⟩) (h27 := (fun z => by injection z with z; omega)) (k := ?_)
  refine RN.abs (fun h1 => Ds h h1 (x + 1) x _ _ _ _ _ _) (D.arr rfl) (fun h1 D => ?_)
  refine r_aload_n hm rfl (k := ?_)
  refine r_bipush hm rfl (k := ?_)
  refine r_newi hm rfl (by decide) (by decide) (Nat.le_of_ble_eq_true rfl) (Nat.le_of_ble_eq_true rfl) ?_
  change RN 159 95 _ _ _ 11 15660 _
  rw [D.len]
  refine r_putR (hm := hm) (hf := rfl) (hd := rfl) (hs := ((alc_s (by rw [D.len]; omega)).trans (D.shx.trans hx))) (hfin := Or.inr ⟨rfl, rfl⟩) (h27 := (fun z => by injection z with z; omega)) (k := ?_)
  refine RN.abs (fun h1 => Ds h h1 (x + 1) x _ _ _ _ _ _) (D.arr rfl) (fun h1 D => ?_)
  refine r_aload_n hm rfl (k := ?_)
  refine r_iconst hm rfl (k := ?_)
  refine r_putI (hm := hm) (hf := rfl) (hd := rfl) (hs := (D.shx.trans hx)) (hfin := Or.inl rfl) (hz := fun q9 => absurd q9 (by decide)) (k := ?_)
  refine RN.abs (fun h1 => Ds h h1 (x + 1) x _ _ _ _ _ _) (D.int) (fun h1 D => ?_)
  refine r_aload_n hm rfl (k := ?_)
  refine r_bipush hm rfl (k := ?_)
  refine r_newi hm rfl (by decide) (by decide) (Nat.le_of_ble_eq_true rfl) (Nat.le_of_ble_eq_true rfl) ?_
  change RN 159 108 _ _ _ 12 15720 _
  rw [D.len]
  refine r_putR (hm := hm) (hf := rfl) (hd := rfl) (hs := ((alc_s (by rw [D.len]; omega)).trans (D.shx.trans hx))) (hfin := Or.inr ⟨rfl, rfl⟩) (h27 := (fun z => by injection z with z; omega)) (k := ?_)
  refine RN.abs (fun h1 => Ds h h1 (x + 1) x _ _ _ _ _ _) (D.arr rfl) (fun h1 D => ?_)
  refine r_aload_n hm rfl (k := ?_)
  refine r_bipush hm rfl (k := ?_)
  refine r_newi hm rfl (by decide) (by decide) (Nat.le_of_ble_eq_true rfl) (Nat.le_of_ble_eq_true rfl) ?_
  change RN 159 116 _ _ _ 13 15780 _
  rw [D.len]
  refine r_putR (hm := hm) (hf := rfl) (hd := rfl) (hs := ((alc_s (by rw [D.len]; omega)).trans (D.shx.trans hx))) (hfin := Or.inr ⟨rfl, rfl⟩) (h27 := (fun z => by injection z with z; omega)) (k := ?_)
  refine RN.abs (fun h1 => Ds h h1 (x + 1) x _ _ _ _ _ _) (D.arr rfl) (fun h1 D => ?_)
  refine r_aload_n hm rfl (k := ?_)
  refine r_sipush hm rfl (k := ?_)
  refine r_newi hm rfl (by decide) (by decide) (Nat.le_of_ble_eq_true rfl) (Nat.le_of_ble_eq_true rfl) ?_
  change RN 159 125 _ _ _ 14 16020 _
  rw [D.len]
  refine r_putR (hm := hm) (hf := rfl) (hd := rfl) (hs := ((alc_s (by rw [D.len]; omega)).trans (D.shx.trans hx))) (hfin := Or.inr ⟨rfl, rfl⟩) (h27 := (fun z => by injection z with z; omega)) (k := ?_)
  refine RN.abs (fun h1 => Ds h h1 (x + 1) x _ _ _ _ _ _) (D.arr rfl) (fun h1 D => ?_)
  refine r_aload_n hm rfl (k := ?_)
  refine r_bipush hm rfl (k := ?_)
  refine r_newi hm rfl (by decide) (by decide) (Nat.le_of_ble_eq_true rfl) (Nat.le_of_ble_eq_true rfl) ?_
  change RN 159 133 _ _ _ 15 16080 _
  rw [D.len]
  refine r_putR (hm := hm) (hf := rfl) (hd := rfl) (hs := ((alc_s (by rw [D.len]; omega)).trans (D.shx.trans hx))) (hfin := Or.inr ⟨rfl, rfl⟩) (h27 := (fun z => by injection z with z; omega)) (k := ?_)
  refine RN.abs (fun h1 => Ds h h1 (x + 1) x _ _ _ _ _ _) (D.arr rfl) (fun h1 D => ?_)
  refine r_aload_n hm rfl (k := ?_)
  refine r_bipush hm rfl (k := ?_)
  refine r_newi hm rfl (by decide) (by decide) (Nat.le_of_ble_eq_true rfl) (Nat.le_of_ble_eq_true rfl) ?_
  change RN 159 141 _ _ _ 16 16140 _
  rw [D.len]
  refine r_putR (hm := hm) (hf := rfl) (hd := rfl) (hs := ((alc_s (by rw [D.len]; omega)).trans (D.shx.trans hx))) (hfin := Or.inr ⟨rfl, rfl⟩) (h27 := (fun z => by injection z with z; omega)) (k := ?_)
  refine RN.abs (fun h1 => Ds h h1 (x + 1) x _ _ _ _ _ _) (D.arr rfl) (fun h1 D => ?_)
  refine r_aload_n hm rfl (k := ?_)
  refine r_iconst hm rfl (k := ?_)
  refine r_newi hm rfl (by decide) (by decide) (Nat.le_of_ble_eq_true rfl) (Nat.le_of_ble_eq_true rfl) ?_
  change RN 159 148 _ _ _ 17 16145 _
  rw [D.len]
  refine r_putR (hm := hm) (hf := rfl) (hd := rfl) (hs := ((alc_s (by rw [D.len]; omega)).trans (D.shx.trans hx))) (hfin := Or.inr ⟨rfl, rfl⟩) (h27 := (fun z => by injection z with z; omega)) (k := ?_)
  refine RN.abs (fun h1 => Ds h h1 (x + 1) x _ _ _ _ _ _) (D.arr rfl) (fun h1 D => ?_)
  refine r_aload_n hm rfl (k := ?_)
  refine r_sipush hm rfl (k := ?_)
  refine r_newi hm rfl (by decide) (by decide) (Nat.le_of_ble_eq_true rfl) (Nat.le_of_ble_eq_true rfl) ?_
  change RN 159 157 _ _ _ 18 30545 _
  rw [D.len]
  refine r_putR (hm := hm) (hf := rfl) (hd := rfl) (hs := ((alc_s (by rw [D.len]; omega)).trans (D.shx.trans hx))) (hfin := Or.inr ⟨rfl, rfl⟩) (h27 := (fun z => by injection z with z; omega)) (k := ?_)
  refine RN.abs (fun h1 => Ds h h1 (x + 1) x _ _ _ _ _ _) (D.arr rfl) (fun h1 D => ?_)
  refine r_aload_n hm rfl (k := ?_)
  refine r_sipush hm rfl (k := ?_)
  refine r_newi hm rfl (by decide) (by decide) (Nat.le_of_ble_eq_true rfl) (Nat.le_of_ble_eq_true rfl) ?_
  change RN 159 166 _ _ _ 19 31745 _
  rw [D.len]
  refine r_putR (hm := hm) (hf := rfl) (hd := rfl) (hs := ((alc_s (by rw [D.len]; omega)).trans (D.shx.trans hx))) (hfin := Or.inr ⟨rfl, rfl⟩) (h27 := (fun z => by injection z with z; omega)) (k := ?_)
  refine RN.abs (fun h1 => Ds h h1 (x + 1) x _ _ _ _ _ _) (D.arr rfl) (fun h1 D => ?_)
  refine r_aload_n hm rfl (k := ?_)
  refine r_sipush hm rfl (k := ?_)
  refine r_newi hm rfl (by decide) (by decide) (Nat.le_of_ble_eq_true rfl) (Nat.le_of_ble_eq_true rfl) ?_
  change RN 159 175 _ _ _ 20 32945 _
  rw [D.len]
  refine r_putR (hm := hm) (hf := rfl) (hd := rfl) (hs := ((alc_s (by rw [D.len]; omega)).trans (D.shx.trans hx))) (hfin := Or.inr ⟨rfl, rfl⟩) (h27 := (fun z => by injection z with z; omega)) (k := ?_)
  refine RN.abs (fun h1 => Ds h h1 (x + 1) x _ _ _ _ _ _) (D.arr rfl) (fun h1 D => ?_)
  refine r_aload_n hm rfl (k := ?_)
  refine r_sipush hm rfl (k := ?_)
  refine r_newi hm rfl (by decide) (by decide) (Nat.le_of_ble_eq_true rfl) (Nat.le_of_ble_eq_true rfl) ?_
  change RN 159 184 _ _ _ 21 34145 _
  rw [D.len]
  refine r_putR (hm := hm) (hf := rfl) (hd := rfl) (hs := ((alc_s (by rw [D.len]; omega)).trans (D.shx.trans hx))) (hfin := Or.inr ⟨rfl, rfl⟩) (h27 := (fun z => by injection z with z; omega)) (k := ?_)
  refine RN.abs (fun h1 => Ds h h1 (x + 1) x _ _ _ _ _ _) (D.arr rfl) (fun h1 D => ?_)
  refine r_aload_n hm rfl (k := ?_)
  refine r_bipush hm rfl (k := ?_)
  refine r_newi hm rfl (by decide) (by decide) (Nat.le_of_ble_eq_true rfl) (Nat.le_of_ble_eq_true rfl) ?_
  change RN 159 192 _ _ _ 22 34205 _
  rw [D.len]
  refine r_putR (hm := hm) (hf := rfl) (hd := rfl) (hs := ((alc_s (by rw [D.len]; omega)).trans (D.shx.trans hx))) (hfin := Or.inr ⟨rfl, rfl⟩) (h27 := (fun z => by injection z with z; omega)) (k := ?_)
  refine RN.abs (fun h1 => Ds h h1 (x + 1) x _ _ _ _ _ _) (D.arr rfl) (fun h1 D => ?_)
  refine r_aload_n hm rfl (k := ?_)
  refine r_bipush hm rfl (k := ?_)
  refine r_newi hm rfl (by decide) (by decide) (Nat.le_of_ble_eq_true rfl) (Nat.le_of_ble_eq_true rfl) ?_
  change RN 159 200 _ _ _ 23 34265 _
  rw [D.len]
  refine r_putR (hm := hm) (hf := rfl) (hd := rfl) (hs := ((alc_s (by rw [D.len]; omega)).trans (D.shx.trans hx))) (hfin := Or.inr ⟨rfl, rfl⟩) (h27 := (fun z => by injection z with z; omega)) (k := ?_)
  refine RN.abs (fun h1 => Ds h h1 (x + 1) x _ _ _ _ _ _) (D.arr rfl) (fun h1 D => ?_)
  refine r_aload_n hm rfl (k := ?_)
  refine r_bipush hm rfl (k := ?_)
  refine r_newi hm rfl (by decide) (by decide) (Nat.le_of_ble_eq_true rfl) (Nat.le_of_ble_eq_true rfl) ?_
  change RN 159 208 _ _ _ 24 34325 _
  rw [D.len]
  refine r_putR (hm := hm) (hf := rfl) (hd := rfl) (hs := ((alc_s (by rw [D.len]; omega)).trans (D.shx.trans hx))) (hfin := Or.inr ⟨rfl, rfl⟩) (h27 := (fun z => by injection z with z; omega)) (k := ?_)
  refine RN.abs (fun h1 => Ds h h1 (x + 1) x _ _ _ _ _ _) (D.arr rfl) (fun h1 D => ?_)
  refine r_aload_n hm rfl (k := ?_)
  refine r_sipush hm rfl (k := ?_)
  refine r_newi hm rfl (by decide) (by decide) (Nat.le_of_ble_eq_true rfl) (Nat.le_of_ble_eq_true rfl) ?_
  change RN 159 217 _ _ _ 25 35625 _
  rw [D.len]
  refine r_putR (hm := hm) (hf := rfl) (hd := rfl) (hs := ((alc_s (by rw [D.len]; omega)).trans (D.shx.trans hx))) (hfin := Or.inr ⟨rfl, rfl⟩) (h27 := (fun z => by injection z with z; omega)) (k := ?_)
  refine RN.abs (fun h1 => Ds h h1 (x + 1) x _ _ _ _ _ _) (D.arr rfl) (fun h1 D => ?_)
  refine r_aload_n hm rfl (k := ?_)
  refine r_bipush hm rfl (k := ?_)
  refine r_newi hm rfl (by decide) (by decide) (Nat.le_of_ble_eq_true rfl) (Nat.le_of_ble_eq_true rfl) ?_
  change RN 159 225 _ _ _ 26 35637 _
  rw [D.len]
  refine r_putR (hm := hm) (hf := rfl) (hd := rfl) (hs := ((alc_s (by rw [D.len]; omega)).trans (D.shx.trans hx))) (hfin := Or.inr ⟨rfl, rfl⟩) (h27 := (fun z => by injection z with z; omega)) (k := ?_)
  refine RN.abs (fun h1 => Ds h h1 (x + 1) x _ _ _ _ _ _) (D.arr rfl) (fun h1 D => ?_)
  refine r_aload_n hm rfl (k := ?_)
  refine r_bipush hm rfl (k := ?_)
  refine r_newi hm rfl (by decide) (by decide) (Nat.le_of_ble_eq_true rfl) (Nat.le_of_ble_eq_true rfl) ?_
  change RN 159 233 _ _ _ 27 35697 _
  rw [D.len]
  refine r_putR (hm := hm) (hf := rfl) (hd := rfl) (hs := ((alc_s (by rw [D.len]; omega)).trans (D.shx.trans hx))) (hfin := Or.inr ⟨rfl, rfl⟩) (h27 := (fun z => by injection z with z; omega)) (k := ?_)
  refine RN.abs (fun h1 => Ds h h1 (x + 1) x _ _ _ _ _ _) (D.arr rfl) (fun h1 D => ?_)
  refine r_aload_n hm rfl (k := ?_)
  refine r_bipush hm rfl (k := ?_)
  refine r_newi hm rfl (by decide) (by decide) (Nat.le_of_ble_eq_true rfl) (Nat.le_of_ble_eq_true rfl) ?_
  change RN 159 241 _ _ _ 28 35758 _
  rw [D.len]
  refine r_putR (hm := hm) (hf := rfl) (hd := rfl) (hs := ((alc_s (by rw [D.len]; omega)).trans (D.shx.trans hx))) (hfin := Or.inr ⟨rfl, rfl⟩) (h27 := (fun z => by injection z with z; omega)) (k := ?_)
  refine RN.abs (fun h1 => Ds h h1 (x + 1) x _ _ _ _ _ _) (D.arr rfl) (fun h1 D => ?_)
  refine r_aload_n hm rfl (k := ?_)
  refine r_bipush hm rfl (k := ?_)
  refine r_newi hm rfl (by decide) (by decide) (Nat.le_of_ble_eq_true rfl) (Nat.le_of_ble_eq_true rfl) ?_
  change RN 159 249 _ _ _ 29 35819 _
  rw [D.len]
  refine r_putR (hm := hm) (hf := rfl) (hd := rfl) (hs := ((alc_s (by rw [D.len]; omega)).trans (D.shx.trans hx))) (hfin := Or.inr ⟨rfl, rfl⟩) (h27 := (fun z => by injection z with z; omega)) (k := ?_)
  refine RN.abs (fun h1 => Ds h h1 (x + 1) x _ _ _ _ _ _) (D.arr rfl) (fun h1 D => ?_)
  refine r_aload_n hm rfl (k := ?_)
  refine r_sipush hm rfl (k := ?_)
  refine r_newi hm rfl (by decide) (by decide) (Nat.le_of_ble_eq_true rfl) (Nat.le_of_ble_eq_true rfl) ?_
  change RN 159 258 _ _ _ 30 37019 _
  rw [D.len]
  refine r_putR (hm := hm) (hf := rfl) (hd := rfl) (hs := ((alc_s (by rw [D.len]; omega)).trans (D.shx.trans hx))) (hfin := Or.inr ⟨rfl, rfl⟩) (h27 := (fun z => by injection z with z; omega)) (k := ?_)
  refine RN.abs (fun h1 => Ds h h1 (x + 1) x _ _ _ _ _ _) (D.arr rfl) (fun h1 D => ?_)
  refine r_aload_n hm rfl (k := ?_)
  refine r_bipush hm rfl (k := ?_)
  refine r_newi hm rfl (by decide) (by decide) (Nat.le_of_ble_eq_true rfl) (Nat.le_of_ble_eq_true rfl) ?_
  change RN 159 266 _ _ _ 31 37080 _
  rw [D.len]
  refine r_putR (hm := hm) (hf := rfl) (hd := rfl) (hs := ((alc_s (by rw [D.len]; omega)).trans (D.shx.trans hx))) (hfin := Or.inr ⟨rfl, rfl⟩) (h27 := (fun z => by injection z with z; omega)) (k := ?_)
  refine RN.abs (fun h1 => Ds h h1 (x + 1) x _ _ _ _ _ _) (D.arr rfl) (fun h1 D => ?_)
  refine r_aload_n hm rfl (k := ?_)
  refine r_bipush hm rfl (k := ?_)
  refine r_newz hm rfl (by decide) (by decide) (Nat.le_of_ble_eq_true rfl) (Nat.le_of_ble_eq_true rfl) ?_
  change RN 159 274 _ _ _ 32 37141 _
  rw [D.len]
  refine r_putR (hm := hm) (hf := rfl) (hd := rfl) (hs := ((alc_s (by rw [D.len]; omega)).trans (D.shx.trans hx))) (hfin := Or.inr ⟨rfl, rfl⟩) (h27 := (fun z => by injection z with z; omega)) (k := ?_)
  refine RN.abs (fun h1 => Ds h h1 (x + 1) x _ _ _ _ _ _) (D.arr rfl) (fun h1 D => ?_)
  refine r_aload_n hm rfl (k := ?_)
  refine r_sipush hm rfl (k := ?_)
  refine r_newi hm rfl (by decide) (by decide) (Nat.le_of_ble_eq_true rfl) (Nat.le_of_ble_eq_true rfl) ?_
  change RN 159 283 _ _ _ 33 37341 _
  rw [D.len]
  refine r_putR (hm := hm) (hf := rfl) (hd := rfl) (hs := ((alc_s (by rw [D.len]; omega)).trans (D.shx.trans hx))) (hfin := Or.inr ⟨rfl, rfl⟩) (h27 := (fun z => by injection z with z; omega)) (k := ?_)
  refine RN.abs (fun h1 => Ds h h1 (x + 1) x _ _ _ _ _ _) (D.arr rfl) (fun h1 D => ?_)
  refine r_aload_n hm rfl (k := ?_)
  refine r_sipush hm rfl (k := ?_)
  refine r_newi hm rfl (by decide) (by decide) (Nat.le_of_ble_eq_true rfl) (Nat.le_of_ble_eq_true rfl) ?_
  change RN 159 292 _ _ _ 34 37541 _
  rw [D.len]
  refine r_putR (hm := hm) (hf := rfl) (hd := rfl) (hs := ((alc_s (by rw [D.len]; omega)).trans (D.shx.trans hx))) (hfin := Or.inr ⟨rfl, rfl⟩) (h27 := (fun z => by injection z with z; omega)) (k := ?_)
  refine RN.abs (fun h1 => Ds h h1 (x + 1) x _ _ _ _ _ _) (D.arr rfl) (fun h1 D => ?_)
  refine r_aload_n hm rfl (k := ?_)
  refine r_sipush hm rfl (k := ?_)
  refine r_newi hm rfl (by decide) (by decide) (Nat.le_of_ble_eq_true rfl) (Nat.le_of_ble_eq_true rfl) ?_
  change RN 159 301 _ _ _ 35 38341 _
  rw [D.len]
  refine r_putR (hm := hm) (hf := rfl) (hd := rfl) (hs := ((alc_s (by rw [D.len]; omega)).trans (D.shx.trans hx))) (hfin := Or.inr ⟨rfl, rfl⟩) (h27 := (fun z => by injection z with z; omega)) (k := ?_)
  refine RN.abs (fun h1 => Ds h h1 (x + 1) x _ _ _ _ _ _) (D.arr rfl) (fun h1 D => ?_)
  refine r_aload_n hm rfl (k := ?_)
  refine r_sipush hm rfl (k := ?_)
  refine r_newi hm rfl (by decide) (by decide) (Nat.le_of_ble_eq_true rfl) (Nat.le_of_ble_eq_true rfl) ?_
  change RN 159 310 _ _ _ 36 38541 _
  rw [D.len]
  refine r_putR (hm := hm) (hf := rfl) (hd := rfl) (hs := ((alc_s (by rw [D.len]; omega)).trans (D.shx.trans hx))) (hfin := Or.inr ⟨rfl, rfl⟩) (h27 := (fun z => by injection z with z; omega)) (k := ?_)
  refine RN.abs (fun h1 => Ds h h1 (x + 1) x _ _ _ _ _ _) (D.arr rfl) (fun h1 D => ?_)
  refine r_aload_n hm rfl (k := ?_)
  refine r_sipush hm rfl (k := ?_)
  refine r_newi hm rfl (by decide) (by decide) (Nat.le_of_ble_eq_true rfl) (Nat.le_of_ble_eq_true rfl) ?_
  change RN 159 319 _ _ _ 37 38741 _
  rw [D.len]
  refine r_putR (hm := hm) (hf := rfl) (hd := rfl) (hs := ((alc_s (by rw [D.len]; omega)).trans (D.shx.trans hx))) (hfin := Or.inr ⟨rfl, rfl⟩) (h27 := (fun z => by injection z with z; omega)) (k := ?_)
  refine RN.abs (fun h1 => Ds h h1 (x + 1) x _ _ _ _ _ _) (D.arr rfl) (fun h1 D => ?_)
  refine r_aload_n hm rfl (k := ?_)
  refine r_sipush hm rfl (k := ?_)
  refine r_newi hm rfl (by decide) (by decide) (Nat.le_of_ble_eq_true rfl) (Nat.le_of_ble_eq_true rfl) ?_
  change RN 159 328 _ _ _ 38 42741 _
  rw [D.len]
  refine r_putR (hm := hm) (hf := rfl) (hd := rfl) (hs := ((alc_s (by rw [D.len]; omega)).trans (D.shx.trans hx))) (hfin := Or.inr ⟨rfl, rfl⟩) (h27 := (fun z => by injection z with z; omega)) (k := ?_)
  refine RN.abs (fun h1 => Ds h h1 (x + 1) x _ _ _ _ _ _) (D.arr rfl) (fun h1 D => ?_)
  refine r_aload_n hm rfl (k := ?_)
  refine r_sipush hm rfl (k := ?_)
  refine r_newi hm rfl (by decide) (by decide) (Nat.le_of_ble_eq_true rfl) (Nat.le_of_ble_eq_true rfl) ?_
  change RN 159 337 _ _ _ 39 46741 _
  rw [D.len]
  refine r_putR (hm := hm) (hf := rfl) (hd := rfl) (hs := ((alc_s (by rw [D.len]; omega)).trans (D.shx.trans hx))) (hfin := Or.inr ⟨rfl, rfl⟩) (h27 := (fun z => by injection z with z; omega)) (k := ?_)
  refine RN.abs (fun h1 => Ds h h1 (x + 1) x _ _ _ _ _ _) (D.arr rfl) (fun h1 D => ?_)
  refine r_aload_n hm rfl (k := ?_)
  refine r_sipush hm rfl (k := ?_)
  refine r_newi hm rfl (by decide) (by decide) (Nat.le_of_ble_eq_true rfl) (Nat.le_of_ble_eq_true rfl) ?_
  change RN 159 346 _ _ _ 40 46901 _
  rw [D.len]
  refine r_putR (hm := hm) (hf := rfl) (hd := rfl) (hs := ((alc_s (by rw [D.len]; omega)).trans (D.shx.trans hx))) (hfin := Or.inr ⟨rfl, rfl⟩) (h27 := (fun z => by injection z with z; omega)) (k := ?_)
  refine RN.abs (fun h1 => Ds h h1 (x + 1) x _ _ _ _ _ _) (D.arr rfl) (fun h1 D => ?_)
  refine r_aload_n hm rfl (k := ?_)
  refine r_iconst hm rfl (k := ?_)
  refine r_putI (hm := hm) (hf := rfl) (hd := rfl) (hs := (D.shx.trans hx)) (hfin := Or.inl rfl) (hz := fun q9 => absurd q9 (by decide)) (k := ?_)
  refine RN.abs (fun h1 => Ds h h1 (x + 1) x _ _ _ _ _ _) (D.int) (fun h1 D => ?_)
  refine r_aload_n hm rfl (k := ?_)
  refine r_bipush hm rfl (k := ?_)
  refine r_newi hm rfl (by decide) (by decide) (Nat.le_of_ble_eq_true rfl) (Nat.le_of_ble_eq_true rfl) ?_
  change RN 159 359 _ _ _ 41 46914 _
  rw [D.len]
  refine r_putR (hm := hm) (hf := rfl) (hd := rfl) (hs := ((alc_s (by rw [D.len]; omega)).trans (D.shx.trans hx))) (hfin := Or.inr ⟨rfl, rfl⟩) (h27 := (fun z => by injection z with z; omega)) (k := ?_)
  refine RN.abs (fun h1 => Ds h h1 (x + 1) x _ _ _ _ _ _) (D.arr rfl) (fun h1 D => ?_)
  refine r_aload_n hm rfl (k := ?_)
  refine r_bipush hm rfl (k := ?_)
  refine r_callv (j2 := 160) hm rfl rfl rfl rfl rfl rfl (D.shx.trans hx) (Nat.le_of_ble_eq_true rfl) (Nat.le_of_ble_eq_true rfl) rfl ⟨(Nat.le_of_ble_eq_true rfl), (Nat.le_of_ble_eq_true rfl), (Nat.le_of_ble_eq_true rfl), (Nat.le_of_ble_eq_true rfl), (Nat.le_of_ble_eq_true rfl)⟩ rfl (m_first (c9 := x + 1 + 10) (D.shx.trans hx) (D.2.2.2.2.1 10 (by omega)) (D.2.2.2.2.2.2.1 10 _ rfl) (by omega)) (fun v9 h9 p9 => ?_)
  obtain ⟨SA, eA, e1⟩ := p9
  subst e1
  have E := D.sm (p := 10) (W := fun k => if 39 ≤ k ∧ k < 52 then some (sty0 (k - 39)) else none) SA (fun k z e => by by_cases c : 39 ≤ k ∧ k < 52; (rw [if_pos c] at e; injection e with e; rw [← e]; have := eA (k - 39) (by omega); rw [show 39 + (k - 39) = k by omega] at this; exact this); (rw [if_neg c] at e; cases e))
  clear D
  have D := E
  change RN 159 368 _ _ _ 41 46914 _
  dsimp only [Option.toList, List.nil_append]
  refine r_return hm rfl rfl (Nat.le_of_ble_eq_true rfl) (Nat.le_of_ble_eq_true rfl) ?_
  refine ⟨D.w (fun q hq => ?_) (fun k b e => ?_) (fun k z e => ?_) (fun q k b hq e => ?_) (fun q k z hq e => ?_), rfl⟩
  · have c : q = 0 ∨ q = 1 ∨ q = 2 ∨ q = 3 ∨ q = 4 ∨ q = 5 ∨ q = 6 ∨ q = 7 ∨ q = 8 ∨ q = 9 ∨ q = 10 ∨ q = 11 ∨ q = 12 ∨ q = 13 ∨ q = 14 ∨ q = 15 ∨ q = 16 ∨ q = 17 ∨ q = 18 ∨ q = 19 ∨ q = 20 ∨ q = 21 ∨ q = 22 ∨ q = 23 ∨ q = 24 ∨ q = 25 ∨ q = 26 ∨ q = 27 ∨ q = 28 ∨ q = 29 ∨ q = 30 ∨ q = 31 ∨ q = 32 ∨ q = 33 ∨ q = 34 ∨ q = 35 ∨ q = 36 ∨ q = 37 ∨ q = 38 ∨ q = 39 ∨ q = 40 := by omega
    rcases c with rfl | rfl | rfl | rfl | rfl | rfl | rfl | rfl | rfl | rfl | rfl | rfl | rfl | rfl | rfl | rfl | rfl | rfl | rfl | rfl | rfl | rfl | rfl | rfl | rfl | rfl | rfl | rfl | rfl | rfl | rfl | rfl | rfl | rfl | rfl | rfl | rfl | rfl | rfl | rfl | rfl <;> rfl
  · by_cases hk : k < 53
    · have c : k = 0 ∨ k = 1 ∨ k = 2 ∨ k = 3 ∨ k = 4 ∨ k = 5 ∨ k = 6 ∨ k = 7 ∨ k = 8 ∨ k = 9 ∨ k = 10 ∨ k = 11 ∨ k = 12 ∨ k = 13 ∨ k = 14 ∨ k = 15 ∨ k = 16 ∨ k = 17 ∨ k = 18 ∨ k = 19 ∨ k = 20 ∨ k = 21 ∨ k = 22 ∨ k = 23 ∨ k = 24 ∨ k = 25 ∨ k = 26 ∨ k = 27 ∨ k = 28 ∨ k = 29 ∨ k = 30 ∨ k = 31 ∨ k = 32 ∨ k = 33 ∨ k = 34 ∨ k = 35 ∨ k = 36 ∨ k = 37 ∨ k = 38 ∨ k = 39 ∨ k = 40 ∨ k = 41 ∨ k = 42 ∨ k = 43 ∨ k = 44 ∨ k = 45 ∨ k = 46 ∨ k = 47 ∨ k = 48 ∨ k = 49 ∨ k = 50 ∨ k = 51 ∨ k = 52 := by omega
      rcases c with rfl | rfl | rfl | rfl | rfl | rfl | rfl | rfl | rfl | rfl | rfl | rfl | rfl | rfl | rfl | rfl | rfl | rfl | rfl | rfl | rfl | rfl | rfl | rfl | rfl | rfl | rfl | rfl | rfl | rfl | rfl | rfl | rfl | rfl | rfl | rfl | rfl | rfl | rfl | rfl | rfl | rfl | rfl | rfl | rfl | rfl | rfl | rfl | rfl | rfl | rfl | rfl | rfl <;> first | exact e | (cases e; done)
    · exfalso
      rw [getD_no (by show 53 ≤ k; omega)] at e
      cases e
  · by_cases c50 : k = 50
    · subst c50; exact e
    · by_cases c11 : k = 11
      · subst c11; exact e
      · by_cases c49 : k = 49
        · subst c49; exact e
        · rw [if_neg c50, if_neg c11, if_neg c49] at e; cases e
  · cases e
  · by_cases c10 : q = 10
    · subst c10; exact e
    · rw [if_neg c10] at e
      by_cases c2 : q < 2
      · have c : q = 0 ∨ q = 1 := by omega
        rcases c with rfl | rfl <;> exact e
      · rw [if_neg c2] at e; cases e
