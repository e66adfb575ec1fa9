/-! the law -/
set_option maxHeartbeats 4000000 in
set_option maxRecDepth 8000 in
theorem law_loop {L : Nat} {xs : Nat → Int32} {S : St} {h : Hp} (hL : L ≤ 2560) (IC : InvC L h S) (IM : InvM L h S) (ok : okS S) (hxs : ∀ k, h.2.1 0 k = (xs k).toInt) : RN 0 16 [some (.inr (.inr (some (0)))), some (.inr (.inr (some (28)))), some (.inr (.inr (some (1085)))), none] [] h 1099 97602 (fun v _ => v = some (.inl 1)) := by
  have hm : mrec 0 = some nM0 := rfl
  have hI : ∀ k, inI (xs k).toInt := fun k => ⟨Int32.le_toInt _, by have := Int32.toInt_lt (xs k); omega⟩
  refine r_iconst hm rfl (k := ?_)
  refine r_istore_n hm rfl (k := ?_)
  suffices LP : ∀ (d i9 : Nat) (S : St) (h : Hp), i9 + d = L + 5 → InvC L h S → InvM L h S → okS S → (∀ k, h.2.1 0 k = (xs k).toInt) → RN 0 18 [some (.inr (.inr (some (0)))), some (.inr (.inr (some (28)))), some (.inr (.inr (some (1085)))), some (.inl (i9 : Int))] [] h 1099 97602 (fun v _ => v = some (.inl 1)) from LP (L + 5) 0 S h (by omega) IC IM ok hxs
  clear IC IM ok hxs
  refine fun d => Nat.strongRecOn d (fun d ih => ?_)
  intro i9 S h hd IC IM ok hxs
  have g1 := IC.1
  refine r_iload_n hm rfl (k := ?_)
  refine r_aload_n hm rfl (k := ?_)
  refine r_alen hm rfl (hs := (by first | exact (g1.1 _).trans rfl)) (hn := by omega) (k := ?_)
  refine r_iconst hm rfl (k := ?_)
  refine r_isub hm rfl (hr := (by omega)) (k := ?_)
  refine r_icmp_gt (t := 973) hm rfl rfl (fun c23 => ?_) (fun c23 => ?_)
  · refine r_iconst hm rfl (k := ?_)
    refine r_ireturn hm rfl rfl (by rfl) (Nat.le_of_ble_eq_true rfl) (Nat.le_of_ble_eq_true rfl) ?_
    rfl
  · refine r_aload_n hm rfl (k := ?_)
    refine r_iload_n hm rfl (k := ?_)
    refine r_iald (hm := hm) (hf := rfl) (hs := (by first | exact (g1.1 _).trans rfl)) (kk := i9) (hi := by omega) (hn := (by omega)) (hv := (by first | exact hxs _ | exact hx2 _)) (k := ?_)
    refine r_bipush hm rfl (k := ?_)
    refine r_iand hm rfl (k := ?_)
    generalize op2 (· &&& ·) (xs i9).toInt 31 = w9
    by_cases s32_0 : w9 = 0
    · refine r_tsw hm rfl 156 (fun q => by omega) (fun q => ⟨124, by rw [s32_0]; rfl, rfl⟩) ?_
      refine r_aload_n hm rfl (k := ?_)
      refine r_aload_n hm rfl (k := ?_)
      refine r_iload_n hm rfl (k := ?_)
      refine r_iconst hm rfl (k := ?_)
      refine r_iadd hm rfl (hr := (by omega)) (k := ?_)
      refine r_iald (hm := hm) (hf := rfl) (hs := (by first | exact (g1.1 _).trans rfl)) (kk := i9 + 1) (hi := by omega) (hn := (by omega)) (hv := (by first | exact hxs _ | exact hx2 _)) (k := ?_)
      refine r_aload_n hm rfl (k := ?_)
      refine r_iload_n hm rfl (k := ?_)
      refine r_iconst hm rfl (k := ?_)
      refine r_iadd hm rfl (hr := (by omega)) (k := ?_)
      refine r_iald (hm := hm) (hf := rfl) (hs := (by first | exact (g1.1 _).trans rfl)) (kk := i9 + 2) (hi := by omega) (hn := (by omega)) (hv := (by first | exact hxs _ | exact hx2 _)) (k := ?_)
      refine r_aload_n hm rfl (k := ?_)
      refine r_iload_n hm rfl (k := ?_)
      refine r_iconst hm rfl (k := ?_)
      refine r_iadd hm rfl (hr := (by omega)) (k := ?_)
      refine r_iald (hm := hm) (hf := rfl) (hs := (by first | exact (g1.1 _).trans rfl)) (kk := i9 + 3) (hi := by omega) (hn := (by omega)) (hv := (by first | exact hxs _ | exact hx2 _)) (k := ?_)
      refine r_callv (j2 := 15) hm rfl rfl rfl rfl rfl rfl (by first | exact (g1.1 _).trans rfl) (Nat.le_of_ble_eq_true rfl) (Nat.le_of_ble_eq_true rfl) rfl ⟨Nat.le_of_ble_eq_true rfl, Nat.le_of_ble_eq_true rfl, Nat.le_of_ble_eq_true rfl, Nat.le_of_ble_eq_true rfl, Nat.le_of_ble_eq_true rfl⟩ rfl (c_put IC ok) (fun v9 hA p9 => ?_)
      obtain ⟨IC2, fx, e1⟩ := p9
      subst e1
      have IM2 := IM.frC IC2.1 fx
      have hx2 : ∀ k, hA.2.1 0 k = (xs k).toInt := fun k => (fx 0 k (by omega)).trans (hxs k)
      replace g1 := IC2.1
      change RN 0 175 _ _ _ 1099 97602 _
      dsimp only [Option.toList, List.cons_append, List.nil_append]
      refine r_aload_n hm rfl (k := ?_)
      refine r_aload_n hm rfl (k := ?_)
      refine r_iload_n hm rfl (k := ?_)
      refine r_iconst hm rfl (k := ?_)
      refine r_iadd hm rfl (hr := (by omega)) (k := ?_)
      refine r_iald (hm := hm) (hf := rfl) (hs := (by first | exact (g1.1 _).trans rfl)) (kk := i9 + 1) (hi := by omega) (hn := (by omega)) (hv := (by first | exact hxs _ | exact hx2 _)) (k := ?_)
      refine r_aload_n hm rfl (k := ?_)
      refine r_iload_n hm rfl (k := ?_)
      refine r_iconst hm rfl (k := ?_)
      refine r_iadd hm rfl (hr := (by omega)) (k := ?_)
      refine r_iald (hm := hm) (hf := rfl) (hs := (by first | exact (g1.1 _).trans rfl)) (kk := i9 + 2) (hi := by omega) (hn := (by omega)) (hv := (by first | exact hxs _ | exact hx2 _)) (k := ?_)
      refine r_aload_n hm rfl (k := ?_)
      refine r_iload_n hm rfl (k := ?_)
      refine r_iconst hm rfl (k := ?_)
      refine r_iadd hm rfl (hr := (by omega)) (k := ?_)
      refine r_iald (hm := hm) (hf := rfl) (hs := (by first | exact (g1.1 _).trans rfl)) (kk := i9 + 3) (hi := by omega) (hn := (by omega)) (hv := (by first | exact hxs _ | exact hx2 _)) (k := ?_)
      refine r_callv (j2 := 161) hm rfl rfl rfl rfl rfl rfl (by first | exact (g1.1 _).trans rfl) (Nat.le_of_ble_eq_true rfl) (Nat.le_of_ble_eq_true rfl) rfl ⟨Nat.le_of_ble_eq_true rfl, Nat.le_of_ble_eq_true rfl, Nat.le_of_ble_eq_true rfl, Nat.le_of_ble_eq_true rfl, Nat.le_of_ble_eq_true rfl⟩ rfl (m_put IM2 ok (hI _) (hI _) (hI _)) (fun v9 hB_ p9 => ?_)
      obtain ⟨IM3, fm, e1⟩ := p9
      subst e1
      have fr : FxR hA hB_ := FxR.of fm
      have IC3 := IC2.frR fr
      have hx3 : ∀ k, hB_.2.1 0 k = (xs k).toInt := fun k => (fr.2.2 0 k (fun z => by have z2 : 1085 ≤ 0 := z; omega)).trans (hx2 k)
      change RN 0 194 _ _ _ 1099 97602 _
      dsimp only [Option.toList, List.cons_append, List.nil_append]
      refine r_icmp_eq (t := 967) hm rfl rfl (fun c194 => ?_) (fun c194 => ?_)
      · refine r_iinc hm rfl (hr := (by omega)) (k := ?_)
        refine r_goto (t := 18) hm rfl (k := ?_)
        exact ih (d - 5) (by omega) (i9 + 5) _ _ (by omega) IC3 IM3 (oPut_ok ok) hx3
      · exact absurd rfl c194
    by_cases s32_1 : w9 = 1
    · refine r_tsw hm rfl 199 (fun q => by omega) (fun q => ⟨167, by rw [s32_1]; rfl, rfl⟩) ?_
      refine r_aload_n hm rfl (k := ?_)
      refine r_aload_n hm rfl (k := ?_)
      refine r_iload_n hm rfl (k := ?_)
      refine r_iconst hm rfl (k := ?_)
      refine r_iadd hm rfl (hr := (by omega)) (k := ?_)
      refine r_iald (hm := hm) (hf := rfl) (hs := (by first | exact (g1.1 _).trans rfl)) (kk := i9 + 1) (hi := by omega) (hn := (by omega)) (hv := (by first | exact hxs _ | exact hx2 _)) (k := ?_)
      refine r_callv (j2 := 21) hm rfl rfl rfl rfl rfl rfl (by first | exact (g1.1 _).trans rfl) (Nat.le_of_ble_eq_true rfl) (Nat.le_of_ble_eq_true rfl) rfl ⟨Nat.le_of_ble_eq_true rfl, Nat.le_of_ble_eq_true rfl, Nat.le_of_ble_eq_true rfl, Nat.le_of_ble_eq_true rfl, Nat.le_of_ble_eq_true rfl⟩ rfl (c_cut IC ok) (fun v9 hA p9 => ?_)
      obtain ⟨IC2, fx, e1⟩ := p9
      subst e1
      have IM2 := IM.frC IC2.1 fx
      have hx2 : ∀ k, hA.2.1 0 k = (xs k).toInt := fun k => (fx 0 k (by omega)).trans (hxs k)
      replace g1 := IC2.1
      change RN 0 208 _ _ _ 1099 97602 _
      dsimp only [Option.toList, List.cons_append, List.nil_append]
      refine r_aload_n hm rfl (k := ?_)
      refine r_aload_n hm rfl (k := ?_)
      refine r_iload_n hm rfl (k := ?_)
      refine r_iconst hm rfl (k := ?_)
      refine r_iadd hm rfl (hr := (by omega)) (k := ?_)
      refine r_iald (hm := hm) (hf := rfl) (hs := (by first | exact (g1.1 _).trans rfl)) (kk := i9 + 1) (hi := by omega) (hn := (by omega)) (hv := (by first | exact hxs _ | exact hx2 _)) (k := ?_)
      refine r_callv (j2 := 164) hm rfl rfl rfl rfl rfl rfl (by first | exact (g1.1 _).trans rfl) (Nat.le_of_ble_eq_true rfl) (Nat.le_of_ble_eq_true rfl) rfl ⟨Nat.le_of_ble_eq_true rfl, Nat.le_of_ble_eq_true rfl, Nat.le_of_ble_eq_true rfl, Nat.le_of_ble_eq_true rfl, Nat.le_of_ble_eq_true rfl⟩ rfl (m_cut IM2 ok (hI _)) (fun v9 hB_ p9 => ?_)
      obtain ⟨IM3, fm, e1⟩ := p9
      subst e1
      have fr : FxR hA hB_ := FxR.of fm
      have IC3 := IC2.frR fr
      have hx3 : ∀ k, hB_.2.1 0 k = (xs k).toInt := fun k => (fr.2.2 0 k (fun z => by have z2 : 1085 ≤ 0 := z; omega)).trans (hx2 k)
      change RN 0 217 _ _ _ 1099 97602 _
      dsimp only [Option.toList, List.cons_append, List.nil_append]
      refine r_icmp_eq (t := 967) hm rfl rfl (fun c217 => ?_) (fun c217 => ?_)
      · refine r_iinc hm rfl (hr := (by omega)) (k := ?_)
        refine r_goto (t := 18) hm rfl (k := ?_)
        exact ih (d - 5) (by omega) (i9 + 5) _ _ (by omega) IC3 IM3 (oCut_ok ok) hx3
      · exact absurd rfl c217
    by_cases s32_2 : w9 = 2
    · refine r_tsw hm rfl 222 (fun q => by omega) (fun q => ⟨190, by rw [s32_2]; rfl, rfl⟩) ?_
      refine r_aload_n hm rfl (k := ?_)
      refine r_aload_n hm rfl (k := ?_)
      refine r_iload_n hm rfl (k := ?_)
      refine r_iconst hm rfl (k := ?_)
      refine r_iadd hm rfl (hr := (by omega)) (k := ?_)
      refine r_iald (hm := hm) (hf := rfl) (hs := (by first | exact (g1.1 _).trans rfl)) (kk := i9 + 1) (hi := by omega) (hn := (by omega)) (hv := (by first | exact hxs _ | exact hx2 _)) (k := ?_)
      refine r_aload_n hm rfl (k := ?_)
      refine r_iload_n hm rfl (k := ?_)
      refine r_iconst hm rfl (k := ?_)
      refine r_iadd hm rfl (hr := (by omega)) (k := ?_)
      refine r_iald (hm := hm) (hf := rfl) (hs := (by first | exact (g1.1 _).trans rfl)) (kk := i9 + 2) (hi := by omega) (hn := (by omega)) (hv := (by first | exact hxs _ | exact hx2 _)) (k := ?_)
      refine r_callv (j2 := 24) hm rfl rfl rfl rfl rfl rfl (by first | exact (g1.1 _).trans rfl) (Nat.le_of_ble_eq_true rfl) (Nat.le_of_ble_eq_true rfl) rfl ⟨Nat.le_of_ble_eq_true rfl, Nat.le_of_ble_eq_true rfl, Nat.le_of_ble_eq_true rfl, Nat.le_of_ble_eq_true rfl, Nat.le_of_ble_eq_true rfl⟩ rfl (c_move IC ok) (fun v9 hA p9 => ?_)
      obtain ⟨IC2, fx, e1⟩ := p9
      subst e1
      have IM2 := IM.frC IC2.1 fx
      have hx2 : ∀ k, hA.2.1 0 k = (xs k).toInt := fun k => (fx 0 k (by omega)).trans (hxs k)
      replace g1 := IC2.1
      change RN 0 236 _ _ _ 1099 97602 _
      dsimp only [Option.toList, List.cons_append, List.nil_append]
      refine r_aload_n hm rfl (k := ?_)
      refine r_aload_n hm rfl (k := ?_)
      refine r_iload_n hm rfl (k := ?_)
      refine r_iconst hm rfl (k := ?_)
      refine r_iadd hm rfl (hr := (by omega)) (k := ?_)
      refine r_iald (hm := hm) (hf := rfl) (hs := (by first | exact (g1.1 _).trans rfl)) (kk := i9 + 1) (hi := by omega) (hn := (by omega)) (hv := (by first | exact hxs _ | exact hx2 _)) (k := ?_)
      refine r_aload_n hm rfl (k := ?_)
      refine r_iload_n hm rfl (k := ?_)
      refine r_iconst hm rfl (k := ?_)
      refine r_iadd hm rfl (hr := (by omega)) (k := ?_)
      refine r_iald (hm := hm) (hf := rfl) (hs := (by first | exact (g1.1 _).trans rfl)) (kk := i9 + 2) (hi := by omega) (hn := (by omega)) (hv := (by first | exact hxs _ | exact hx2 _)) (k := ?_)
      refine r_callv (j2 := 166) hm rfl rfl rfl rfl rfl rfl (by first | exact (g1.1 _).trans rfl) (Nat.le_of_ble_eq_true rfl) (Nat.le_of_ble_eq_true rfl) rfl ⟨Nat.le_of_ble_eq_true rfl, Nat.le_of_ble_eq_true rfl, Nat.le_of_ble_eq_true rfl, Nat.le_of_ble_eq_true rfl, Nat.le_of_ble_eq_true rfl⟩ rfl (m_move IM2 ok (hI _) (hI _)) (fun v9 hB_ p9 => ?_)
      obtain ⟨IM3, fm, e1⟩ := p9
      subst e1
      have fr : FxR hA hB_ := FxR.of fm
      have IC3 := IC2.frR fr
      have hx3 : ∀ k, hB_.2.1 0 k = (xs k).toInt := fun k => (fr.2.2 0 k (fun z => by have z2 : 1085 ≤ 0 := z; omega)).trans (hx2 k)
      change RN 0 250 _ _ _ 1099 97602 _
      dsimp only [Option.toList, List.cons_append, List.nil_append]
      refine r_icmp_eq (t := 967) hm rfl rfl (fun c250 => ?_) (fun c250 => ?_)
      · refine r_iinc hm rfl (hr := (by omega)) (k := ?_)
        refine r_goto (t := 18) hm rfl (k := ?_)
        exact ih (d - 5) (by omega) (i9 + 5) _ _ (by omega) IC3 IM3 (oMove_ok ok) hx3
      · exact absurd rfl c250
    by_cases s32_3 : w9 = 3
    · refine r_tsw hm rfl 255 (fun q => by omega) (fun q => ⟨223, by rw [s32_3]; rfl, rfl⟩) ?_
      refine r_aload_n hm rfl (k := ?_)
      refine r_aload_n hm rfl (k := ?_)
      refine r_iload_n hm rfl (k := ?_)
      refine r_iconst hm rfl (k := ?_)
      refine r_iadd hm rfl (hr := (by omega)) (k := ?_)
      refine r_iald (hm := hm) (hf := rfl) (hs := (by first | exact (g1.1 _).trans rfl)) (kk := i9 + 1) (hi := by omega) (hn := (by omega)) (hv := (by first | exact hxs _ | exact hx2 _)) (k := ?_)
      refine r_aload_n hm rfl (k := ?_)
      refine r_iload_n hm rfl (k := ?_)
      refine r_iconst hm rfl (k := ?_)
      refine r_iadd hm rfl (hr := (by omega)) (k := ?_)
      refine r_iald (hm := hm) (hf := rfl) (hs := (by first | exact (g1.1 _).trans rfl)) (kk := i9 + 2) (hi := by omega) (hn := (by omega)) (hv := (by first | exact hxs _ | exact hx2 _)) (k := ?_)
      refine r_callv (j2 := 25) hm rfl rfl rfl rfl rfl rfl (by first | exact (g1.1 _).trans rfl) (Nat.le_of_ble_eq_true rfl) (Nat.le_of_ble_eq_true rfl) rfl ⟨Nat.le_of_ble_eq_true rfl, Nat.le_of_ble_eq_true rfl, Nat.le_of_ble_eq_true rfl, Nat.le_of_ble_eq_true rfl, Nat.le_of_ble_eq_true rfl⟩ rfl (c_mark IC ok) (fun v9 hA p9 => ?_)
      obtain ⟨IC2, fx, e1⟩ := p9
      subst e1
      have IM2 := IM.frC IC2.1 fx
      have hx2 : ∀ k, hA.2.1 0 k = (xs k).toInt := fun k => (fx 0 k (by omega)).trans (hxs k)
      replace g1 := IC2.1
      change RN 0 269 _ _ _ 1099 97602 _
      dsimp only [Option.toList, List.cons_append, List.nil_append]
      refine r_aload_n hm rfl (k := ?_)
      refine r_aload_n hm rfl (k := ?_)
      refine r_iload_n hm rfl (k := ?_)
      refine r_iconst hm rfl (k := ?_)
      refine r_iadd hm rfl (hr := (by omega)) (k := ?_)
      refine r_iald (hm := hm) (hf := rfl) (hs := (by first | exact (g1.1 _).trans rfl)) (kk := i9 + 1) (hi := by omega) (hn := (by omega)) (hv := (by first | exact hxs _ | exact hx2 _)) (k := ?_)
      refine r_aload_n hm rfl (k := ?_)
      refine r_iload_n hm rfl (k := ?_)
      refine r_iconst hm rfl (k := ?_)
      refine r_iadd hm rfl (hr := (by omega)) (k := ?_)
      refine r_iald (hm := hm) (hf := rfl) (hs := (by first | exact (g1.1 _).trans rfl)) (kk := i9 + 2) (hi := by omega) (hn := (by omega)) (hv := (by first | exact hxs _ | exact hx2 _)) (k := ?_)
      refine r_callv (j2 := 169) hm rfl rfl rfl rfl rfl rfl (by first | exact (g1.1 _).trans rfl) (Nat.le_of_ble_eq_true rfl) (Nat.le_of_ble_eq_true rfl) rfl ⟨Nat.le_of_ble_eq_true rfl, Nat.le_of_ble_eq_true rfl, Nat.le_of_ble_eq_true rfl, Nat.le_of_ble_eq_true rfl, Nat.le_of_ble_eq_true rfl⟩ rfl (m_mark IM2 ok (hI _) (hI _)) (fun v9 hB_ p9 => ?_)
      obtain ⟨IM3, fm, e1⟩ := p9
      subst e1
      have fr : FxR hA hB_ := FxR.of fm
      have IC3 := IC2.frR fr
      have hx3 : ∀ k, hB_.2.1 0 k = (xs k).toInt := fun k => (fr.2.2 0 k (fun z => by have z2 : 1085 ≤ 0 := z; omega)).trans (hx2 k)
      change RN 0 283 _ _ _ 1099 97602 _
      dsimp only [Option.toList, List.cons_append, List.nil_append]
      refine r_icmp_eq (t := 967) hm rfl rfl (fun c283 => ?_) (fun c283 => ?_)
      · refine r_iinc hm rfl (hr := (by omega)) (k := ?_)
        refine r_goto (t := 18) hm rfl (k := ?_)
        exact ih (d - 5) (by omega) (i9 + 5) _ _ (by omega) IC3 IM3 (oMark_ok ok) hx3
      · exact absurd rfl c283
    by_cases s32_4 : w9 = 4
    · refine r_tsw hm rfl 288 (fun q => by omega) (fun q => ⟨256, by rw [s32_4]; rfl, rfl⟩) ?_
      refine r_aload_n hm rfl (k := ?_)
      refine r_aload_n hm rfl (k := ?_)
      refine r_iload_n hm rfl (k := ?_)
      refine r_iconst hm rfl (k := ?_)
      refine r_iadd hm rfl (hr := (by omega)) (k := ?_)
      refine r_iald (hm := hm) (hf := rfl) (hs := (by first | exact (g1.1 _).trans rfl)) (kk := i9 + 1) (hi := by omega) (hn := (by omega)) (hv := (by first | exact hxs _ | exact hx2 _)) (k := ?_)
      refine r_aload_n hm rfl (k := ?_)
      refine r_iload_n hm rfl (k := ?_)
      refine r_iconst hm rfl (k := ?_)
      refine r_iadd hm rfl (hr := (by omega)) (k := ?_)
      refine r_iald (hm := hm) (hf := rfl) (hs := (by first | exact (g1.1 _).trans rfl)) (kk := i9 + 2) (hi := by omega) (hn := (by omega)) (hv := (by first | exact hxs _ | exact hx2 _)) (k := ?_)
      refine r_aload_n hm rfl (k := ?_)
      refine r_iload_n hm rfl (k := ?_)
      refine r_iconst hm rfl (k := ?_)
      refine r_iadd hm rfl (hr := (by omega)) (k := ?_)
      refine r_iald (hm := hm) (hf := rfl) (hs := (by first | exact (g1.1 _).trans rfl)) (kk := i9 + 3) (hi := by omega) (hn := (by omega)) (hv := (by first | exact hxs _ | exact hx2 _)) (k := ?_)
      refine r_aload_n hm rfl (k := ?_)
      refine r_iload_n hm rfl (k := ?_)
      refine r_iconst hm rfl (k := ?_)
      refine r_iadd hm rfl (hr := (by omega)) (k := ?_)
      refine r_iald (hm := hm) (hf := rfl) (hs := (by first | exact (g1.1 _).trans rfl)) (kk := i9 + 4) (hi := by omega) (hn := (by omega)) (hv := (by first | exact hxs _ | exact hx2 _)) (k := ?_)
      refine r_callv (j2 := 27) hm rfl rfl rfl rfl rfl rfl (by first | exact (g1.1 _).trans rfl) (Nat.le_of_ble_eq_true rfl) (Nat.le_of_ble_eq_true rfl) rfl ⟨Nat.le_of_ble_eq_true rfl, Nat.le_of_ble_eq_true rfl, Nat.le_of_ble_eq_true rfl, Nat.le_of_ble_eq_true rfl, Nat.le_of_ble_eq_true rfl⟩ rfl (c_piece IC ok) (fun v9 hA p9 => ?_)
      obtain ⟨IC2, fx, e1⟩ := p9
      subst e1
      have IM2 := IM.frC IC2.1 fx
      have hx2 : ∀ k, hA.2.1 0 k = (xs k).toInt := fun k => (fx 0 k (by omega)).trans (hxs k)
      replace g1 := IC2.1
      change RN 0 312 _ _ _ 1099 97602 _
      dsimp only [Option.toList, List.cons_append, List.nil_append]
      refine r_aload_n hm rfl (k := ?_)
      refine r_aload_n hm rfl (k := ?_)
      refine r_iload_n hm rfl (k := ?_)
      refine r_iconst hm rfl (k := ?_)
      refine r_iadd hm rfl (hr := (by omega)) (k := ?_)
      refine r_iald (hm := hm) (hf := rfl) (hs := (by first | exact (g1.1 _).trans rfl)) (kk := i9 + 1) (hi := by omega) (hn := (by omega)) (hv := (by first | exact hxs _ | exact hx2 _)) (k := ?_)
      refine r_aload_n hm rfl (k := ?_)
      refine r_iload_n hm rfl (k := ?_)
      refine r_iconst hm rfl (k := ?_)
      refine r_iadd hm rfl (hr := (by omega)) (k := ?_)
      refine r_iald (hm := hm) (hf := rfl) (hs := (by first | exact (g1.1 _).trans rfl)) (kk := i9 + 2) (hi := by omega) (hn := (by omega)) (hv := (by first | exact hxs _ | exact hx2 _)) (k := ?_)
      refine r_aload_n hm rfl (k := ?_)
      refine r_iload_n hm rfl (k := ?_)
      refine r_iconst hm rfl (k := ?_)
      refine r_iadd hm rfl (hr := (by omega)) (k := ?_)
      refine r_iald (hm := hm) (hf := rfl) (hs := (by first | exact (g1.1 _).trans rfl)) (kk := i9 + 3) (hi := by omega) (hn := (by omega)) (hv := (by first | exact hxs _ | exact hx2 _)) (k := ?_)
      refine r_aload_n hm rfl (k := ?_)
      refine r_iload_n hm rfl (k := ?_)
      refine r_iconst hm rfl (k := ?_)
      refine r_iadd hm rfl (hr := (by omega)) (k := ?_)
      refine r_iald (hm := hm) (hf := rfl) (hs := (by first | exact (g1.1 _).trans rfl)) (kk := i9 + 4) (hi := by omega) (hn := (by omega)) (hv := (by first | exact hxs _ | exact hx2 _)) (k := ?_)
      refine r_callv (j2 := 170) hm rfl rfl rfl rfl rfl rfl (by first | exact (g1.1 _).trans rfl) (Nat.le_of_ble_eq_true rfl) (Nat.le_of_ble_eq_true rfl) rfl ⟨Nat.le_of_ble_eq_true rfl, Nat.le_of_ble_eq_true rfl, Nat.le_of_ble_eq_true rfl, Nat.le_of_ble_eq_true rfl, Nat.le_of_ble_eq_true rfl⟩ rfl (m_piece IM2 ok (hI _) (hI _) (hI _) (hI _)) (fun v9 hB_ p9 => ?_)
      obtain ⟨IM3, fm, e1⟩ := p9
      subst e1
      have fr : FxR hA hB_ := FxR.of fm
      have IC3 := IC2.frR fr
      have hx3 : ∀ k, hB_.2.1 0 k = (xs k).toInt := fun k => (fr.2.2 0 k (fun z => by have z2 : 1085 ≤ 0 := z; omega)).trans (hx2 k)
      change RN 0 336 _ _ _ 1099 97602 _
      dsimp only [Option.toList, List.cons_append, List.nil_append]
      refine r_icmp_eq (t := 967) hm rfl rfl (fun c336 => ?_) (fun c336 => ?_)
      · refine r_iinc hm rfl (hr := (by omega)) (k := ?_)
        refine r_goto (t := 18) hm rfl (k := ?_)
        exact ih (d - 5) (by omega) (i9 + 5) _ _ (by omega) IC3 IM3 (oPiece_ok ok) hx3
      · exact absurd rfl c336
    by_cases s32_5 : w9 = 5
    · refine r_tsw hm rfl 341 (fun q => by omega) (fun q => ⟨309, by rw [s32_5]; rfl, rfl⟩) ?_
      refine r_aload_n hm rfl (k := ?_)
      refine r_aload_n hm rfl (k := ?_)
      refine r_iload_n hm rfl (k := ?_)
      refine r_iconst hm rfl (k := ?_)
      refine r_iadd hm rfl (hr := (by omega)) (k := ?_)
      refine r_iald (hm := hm) (hf := rfl) (hs := (by first | exact (g1.1 _).trans rfl)) (kk := i9 + 1) (hi := by omega) (hn := (by omega)) (hv := (by first | exact hxs _ | exact hx2 _)) (k := ?_)
      refine r_callv (j2 := 30) hm rfl rfl rfl rfl rfl rfl (by first | exact (g1.1 _).trans rfl) (Nat.le_of_ble_eq_true rfl) (Nat.le_of_ble_eq_true rfl) rfl ⟨Nat.le_of_ble_eq_true rfl, Nat.le_of_ble_eq_true rfl, Nat.le_of_ble_eq_true rfl, Nat.le_of_ble_eq_true rfl, Nat.le_of_ble_eq_true rfl⟩ rfl (c_drop IC ok) (fun v9 hA p9 => ?_)
      obtain ⟨IC2, fx, e1⟩ := p9
      subst e1
      have IM2 := IM.frC IC2.1 fx
      have hx2 : ∀ k, hA.2.1 0 k = (xs k).toInt := fun k => (fx 0 k (by omega)).trans (hxs k)
      replace g1 := IC2.1
      change RN 0 350 _ _ _ 1099 97602 _
      dsimp only [Option.toList, List.cons_append, List.nil_append]
      refine r_aload_n hm rfl (k := ?_)
      refine r_aload_n hm rfl (k := ?_)
      refine r_iload_n hm rfl (k := ?_)
      refine r_iconst hm rfl (k := ?_)
      refine r_iadd hm rfl (hr := (by omega)) (k := ?_)
      refine r_iald (hm := hm) (hf := rfl) (hs := (by first | exact (g1.1 _).trans rfl)) (kk := i9 + 1) (hi := by omega) (hn := (by omega)) (hv := (by first | exact hxs _ | exact hx2 _)) (k := ?_)
      refine r_callv (j2 := 171) hm rfl rfl rfl rfl rfl rfl (by first | exact (g1.1 _).trans rfl) (Nat.le_of_ble_eq_true rfl) (Nat.le_of_ble_eq_true rfl) rfl ⟨Nat.le_of_ble_eq_true rfl, Nat.le_of_ble_eq_true rfl, Nat.le_of_ble_eq_true rfl, Nat.le_of_ble_eq_true rfl, Nat.le_of_ble_eq_true rfl⟩ rfl (m_drop IM2 ok (hI _)) (fun v9 hB_ p9 => ?_)
      obtain ⟨IM3, fm, e1⟩ := p9
      subst e1
      have fr : FxR hA hB_ := FxR.of fm
      have IC3 := IC2.frR fr
      have hx3 : ∀ k, hB_.2.1 0 k = (xs k).toInt := fun k => (fr.2.2 0 k (fun z => by have z2 : 1085 ≤ 0 := z; omega)).trans (hx2 k)
      change RN 0 359 _ _ _ 1099 97602 _
      dsimp only [Option.toList, List.cons_append, List.nil_append]
      refine r_icmp_eq (t := 967) hm rfl rfl (fun c359 => ?_) (fun c359 => ?_)
      · refine r_iinc hm rfl (hr := (by omega)) (k := ?_)
        refine r_goto (t := 18) hm rfl (k := ?_)
        exact ih (d - 5) (by omega) (i9 + 5) _ _ (by omega) IC3 IM3 (oDrop_ok ok) hx3
      · exact absurd rfl c359
    by_cases s32_6 : w9 = 6
    · refine r_tsw hm rfl 364 (fun q => by omega) (fun q => ⟨332, by rw [s32_6]; rfl, rfl⟩) ?_
      refine r_aload_n hm rfl (k := ?_)
      refine r_aload_n hm rfl (k := ?_)
      refine r_iload_n hm rfl (k := ?_)
      refine r_iconst hm rfl (k := ?_)
      refine r_iadd hm rfl (hr := (by omega)) (k := ?_)
      refine r_iald (hm := hm) (hf := rfl) (hs := (by first | exact (g1.1 _).trans rfl)) (kk := i9 + 1) (hi := by omega) (hn := (by omega)) (hv := (by first | exact hxs _ | exact hx2 _)) (k := ?_)
      refine r_aload_n hm rfl (k := ?_)
      refine r_iload_n hm rfl (k := ?_)
      refine r_iconst hm rfl (k := ?_)
      refine r_iadd hm rfl (hr := (by omega)) (k := ?_)
      refine r_iald (hm := hm) (hf := rfl) (hs := (by first | exact (g1.1 _).trans rfl)) (kk := i9 + 2) (hi := by omega) (hn := (by omega)) (hv := (by first | exact hxs _ | exact hx2 _)) (k := ?_)
      refine r_callv (j2 := 31) hm rfl rfl rfl rfl rfl rfl (by first | exact (g1.1 _).trans rfl) (Nat.le_of_ble_eq_true rfl) (Nat.le_of_ble_eq_true rfl) rfl ⟨Nat.le_of_ble_eq_true rfl, Nat.le_of_ble_eq_true rfl, Nat.le_of_ble_eq_true rfl, Nat.le_of_ble_eq_true rfl, Nat.le_of_ble_eq_true rfl⟩ rfl (c_about IC ok) (fun v9 hA p9 => ?_)
      obtain ⟨IC2, fx, e1⟩ := p9
      subst e1
      have IM2 := IM.frC IC2.1 fx
      have hx2 : ∀ k, hA.2.1 0 k = (xs k).toInt := fun k => (fx 0 k (by omega)).trans (hxs k)
      replace g1 := IC2.1
      change RN 0 378 _ _ _ 1099 97602 _
      dsimp only [Option.toList, List.cons_append, List.nil_append]
      refine r_aload_n hm rfl (k := ?_)
      refine r_aload_n hm rfl (k := ?_)
      refine r_iload_n hm rfl (k := ?_)
      refine r_iconst hm rfl (k := ?_)
      refine r_iadd hm rfl (hr := (by omega)) (k := ?_)
      refine r_iald (hm := hm) (hf := rfl) (hs := (by first | exact (g1.1 _).trans rfl)) (kk := i9 + 1) (hi := by omega) (hn := (by omega)) (hv := (by first | exact hxs _ | exact hx2 _)) (k := ?_)
      refine r_aload_n hm rfl (k := ?_)
      refine r_iload_n hm rfl (k := ?_)
      refine r_iconst hm rfl (k := ?_)
      refine r_iadd hm rfl (hr := (by omega)) (k := ?_)
      refine r_iald (hm := hm) (hf := rfl) (hs := (by first | exact (g1.1 _).trans rfl)) (kk := i9 + 2) (hi := by omega) (hn := (by omega)) (hv := (by first | exact hxs _ | exact hx2 _)) (k := ?_)
      refine r_callv (j2 := 172) hm rfl rfl rfl rfl rfl rfl (by first | exact (g1.1 _).trans rfl) (Nat.le_of_ble_eq_true rfl) (Nat.le_of_ble_eq_true rfl) rfl ⟨Nat.le_of_ble_eq_true rfl, Nat.le_of_ble_eq_true rfl, Nat.le_of_ble_eq_true rfl, Nat.le_of_ble_eq_true rfl, Nat.le_of_ble_eq_true rfl⟩ rfl (m_about IM2 ok (hI _)) (fun v9 hB_ p9 => ?_)
      obtain ⟨IM3, fm, e1⟩ := p9
      subst e1
      have fr : FxR hA hB_ := FxR.of fm
      have IC3 := IC2.frR fr
      have hx3 : ∀ k, hB_.2.1 0 k = (xs k).toInt := fun k => (fr.2.2 0 k (fun z => by have z2 : 1085 ≤ 0 := z; omega)).trans (hx2 k)
      change RN 0 392 _ _ _ 1099 97602 _
      dsimp only [Option.toList, List.cons_append, List.nil_append]
      refine r_icmp_eq (t := 967) hm rfl rfl (fun c392 => ?_) (fun c392 => ?_)
      · refine r_iinc hm rfl (hr := (by omega)) (k := ?_)
        refine r_goto (t := 18) hm rfl (k := ?_)
        exact ih (d - 5) (by omega) (i9 + 5) _ _ (by omega) IC3 IM3 (ok) hx3
      · exact absurd rfl c392
    by_cases s32_7 : w9 = 7
    · refine r_tsw hm rfl 397 (fun q => by omega) (fun q => ⟨365, by rw [s32_7]; rfl, rfl⟩) ?_
      refine r_aload_n hm rfl (k := ?_)
      refine r_aload_n hm rfl (k := ?_)
      refine r_iload_n hm rfl (k := ?_)
      refine r_iconst hm rfl (k := ?_)
      refine r_iadd hm rfl (hr := (by omega)) (k := ?_)
      refine r_iald (hm := hm) (hf := rfl) (hs := (by first | exact (g1.1 _).trans rfl)) (kk := i9 + 1) (hi := by omega) (hn := (by omega)) (hv := (by first | exact hxs _ | exact hx2 _)) (k := ?_)
      refine r_aload_n hm rfl (k := ?_)
      refine r_iload_n hm rfl (k := ?_)
      refine r_iconst hm rfl (k := ?_)
      refine r_iadd hm rfl (hr := (by omega)) (k := ?_)
      refine r_iald (hm := hm) (hf := rfl) (hs := (by first | exact (g1.1 _).trans rfl)) (kk := i9 + 2) (hi := by omega) (hn := (by omega)) (hv := (by first | exact hxs _ | exact hx2 _)) (k := ?_)
      refine r_callv (j2 := 47) hm rfl rfl rfl rfl rfl rfl (by first | exact (g1.1 _).trans rfl) (Nat.le_of_ble_eq_true rfl) (Nat.le_of_ble_eq_true rfl) rfl ⟨Nat.le_of_ble_eq_true rfl, Nat.le_of_ble_eq_true rfl, Nat.le_of_ble_eq_true rfl, Nat.le_of_ble_eq_true rfl, Nat.le_of_ble_eq_true rfl⟩ rfl (c_number IC ok) (fun v9 hA p9 => ?_)
      obtain ⟨IC2, fx, e1⟩ := p9
      subst e1
      have IM2 := IM.frC IC2.1 fx
      have hx2 : ∀ k, hA.2.1 0 k = (xs k).toInt := fun k => (fx 0 k (by omega)).trans (hxs k)
      replace g1 := IC2.1
      change RN 0 411 _ _ _ 1099 97602 _
      dsimp only [Option.toList, List.cons_append, List.nil_append]
      refine r_aload_n hm rfl (k := ?_)
      refine r_aload_n hm rfl (k := ?_)
      refine r_iload_n hm rfl (k := ?_)
      refine r_iconst hm rfl (k := ?_)
      refine r_iadd hm rfl (hr := (by omega)) (k := ?_)
      refine r_iald (hm := hm) (hf := rfl) (hs := (by first | exact (g1.1 _).trans rfl)) (kk := i9 + 1) (hi := by omega) (hn := (by omega)) (hv := (by first | exact hxs _ | exact hx2 _)) (k := ?_)
      refine r_aload_n hm rfl (k := ?_)
      refine r_iload_n hm rfl (k := ?_)
      refine r_iconst hm rfl (k := ?_)
      refine r_iadd hm rfl (hr := (by omega)) (k := ?_)
      refine r_iald (hm := hm) (hf := rfl) (hs := (by first | exact (g1.1 _).trans rfl)) (kk := i9 + 2) (hi := by omega) (hn := (by omega)) (hv := (by first | exact hxs _ | exact hx2 _)) (k := ?_)
      refine r_callv (j2 := 182) hm rfl rfl rfl rfl rfl rfl (by first | exact (g1.1 _).trans rfl) (Nat.le_of_ble_eq_true rfl) (Nat.le_of_ble_eq_true rfl) rfl ⟨Nat.le_of_ble_eq_true rfl, Nat.le_of_ble_eq_true rfl, Nat.le_of_ble_eq_true rfl, Nat.le_of_ble_eq_true rfl, Nat.le_of_ble_eq_true rfl⟩ rfl (m_number IM2 ok (hI _) (hI _)) (fun v9 hB_ p9 => ?_)
      obtain ⟨IM3, fm, e1⟩ := p9
      subst e1
      have fr : FxR hA hB_ := FxR.of fm
      have IC3 := IC2.frR fr
      have hx3 : ∀ k, hB_.2.1 0 k = (xs k).toInt := fun k => (fr.2.2 0 k (fun z => by have z2 : 1085 ≤ 0 := z; omega)).trans (hx2 k)
      change RN 0 425 _ _ _ 1099 97602 _
      dsimp only [Option.toList, List.cons_append, List.nil_append]
      refine r_icmp_eq (t := 967) hm rfl rfl (fun c425 => ?_) (fun c425 => ?_)
      · refine r_iinc hm rfl (hr := (by omega)) (k := ?_)
        refine r_goto (t := 18) hm rfl (k := ?_)
        exact ih (d - 5) (by omega) (i9 + 5) _ _ (by omega) IC3 IM3 (ok) hx3
      · exact absurd rfl c425
    by_cases s32_8 : w9 = 8
    · refine r_tsw hm rfl 430 (fun q => by omega) (fun q => ⟨398, by rw [s32_8]; rfl, rfl⟩) ?_
      refine r_aload_n hm rfl (k := ?_)
      refine r_aload_n hm rfl (k := ?_)
      refine r_iload_n hm rfl (k := ?_)
      refine r_iconst hm rfl (k := ?_)
      refine r_iadd hm rfl (hr := (by omega)) (k := ?_)
      refine r_iald (hm := hm) (hf := rfl) (hs := (by first | exact (g1.1 _).trans rfl)) (kk := i9 + 1) (hi := by omega) (hn := (by omega)) (hv := (by first | exact hxs _ | exact hx2 _)) (k := ?_)
      refine r_aload_n hm rfl (k := ?_)
      refine r_iload_n hm rfl (k := ?_)
      refine r_iconst hm rfl (k := ?_)
      refine r_iadd hm rfl (hr := (by omega)) (k := ?_)
      refine r_iald (hm := hm) (hf := rfl) (hs := (by first | exact (g1.1 _).trans rfl)) (kk := i9 + 2) (hi := by omega) (hn := (by omega)) (hv := (by first | exact hxs _ | exact hx2 _)) (k := ?_)
      refine r_aload_n hm rfl (k := ?_)
      refine r_iload_n hm rfl (k := ?_)
      refine r_iconst hm rfl (k := ?_)
      refine r_iadd hm rfl (hr := (by omega)) (k := ?_)
      refine r_iald (hm := hm) (hf := rfl) (hs := (by first | exact (g1.1 _).trans rfl)) (kk := i9 + 3) (hi := by omega) (hn := (by omega)) (hv := (by first | exact hxs _ | exact hx2 _)) (k := ?_)
      refine r_callv (j2 := 49) hm rfl rfl rfl rfl rfl rfl (by first | exact (g1.1 _).trans rfl) (Nat.le_of_ble_eq_true rfl) (Nat.le_of_ble_eq_true rfl) rfl ⟨Nat.le_of_ble_eq_true rfl, Nat.le_of_ble_eq_true rfl, Nat.le_of_ble_eq_true rfl, Nat.le_of_ble_eq_true rfl, Nat.le_of_ble_eq_true rfl⟩ rfl (c_told IC ok) (fun v9 hA p9 => ?_)
      obtain ⟨IC2, fx, e1⟩ := p9
      subst e1
      have IM2 := IM.frC IC2.1 fx
      have hx2 : ∀ k, hA.2.1 0 k = (xs k).toInt := fun k => (fx 0 k (by omega)).trans (hxs k)
      replace g1 := IC2.1
      change RN 0 449 _ _ _ 1099 97602 _
      dsimp only [Option.toList, List.cons_append, List.nil_append]
      refine r_aload_n hm rfl (k := ?_)
      refine r_aload_n hm rfl (k := ?_)
      refine r_iload_n hm rfl (k := ?_)
      refine r_iconst hm rfl (k := ?_)
      refine r_iadd hm rfl (hr := (by omega)) (k := ?_)
      refine r_iald (hm := hm) (hf := rfl) (hs := (by first | exact (g1.1 _).trans rfl)) (kk := i9 + 1) (hi := by omega) (hn := (by omega)) (hv := (by first | exact hxs _ | exact hx2 _)) (k := ?_)
      refine r_aload_n hm rfl (k := ?_)
      refine r_iload_n hm rfl (k := ?_)
      refine r_iconst hm rfl (k := ?_)
      refine r_iadd hm rfl (hr := (by omega)) (k := ?_)
      refine r_iald (hm := hm) (hf := rfl) (hs := (by first | exact (g1.1 _).trans rfl)) (kk := i9 + 2) (hi := by omega) (hn := (by omega)) (hv := (by first | exact hxs _ | exact hx2 _)) (k := ?_)
      refine r_aload_n hm rfl (k := ?_)
      refine r_iload_n hm rfl (k := ?_)
      refine r_iconst hm rfl (k := ?_)
      refine r_iadd hm rfl (hr := (by omega)) (k := ?_)
      refine r_iald (hm := hm) (hf := rfl) (hs := (by first | exact (g1.1 _).trans rfl)) (kk := i9 + 3) (hi := by omega) (hn := (by omega)) (hv := (by first | exact hxs _ | exact hx2 _)) (k := ?_)
      refine r_callv (j2 := 183) hm rfl rfl rfl rfl rfl rfl (by first | exact (g1.1 _).trans rfl) (Nat.le_of_ble_eq_true rfl) (Nat.le_of_ble_eq_true rfl) rfl ⟨Nat.le_of_ble_eq_true rfl, Nat.le_of_ble_eq_true rfl, Nat.le_of_ble_eq_true rfl, Nat.le_of_ble_eq_true rfl, Nat.le_of_ble_eq_true rfl⟩ rfl (m_told IM2 ok (hI _) (hI _) (hI _)) (fun v9 hB_ p9 => ?_)
      obtain ⟨IM3, fm, e1⟩ := p9
      subst e1
      have fr : FxR hA hB_ := FxR.of fm
      have IC3 := IC2.frR fr
      have hx3 : ∀ k, hB_.2.1 0 k = (xs k).toInt := fun k => (fr.2.2 0 k (fun z => by have z2 : 1085 ≤ 0 := z; omega)).trans (hx2 k)
      change RN 0 468 _ _ _ 1099 97602 _
      dsimp only [Option.toList, List.cons_append, List.nil_append]
      refine r_icmp_eq (t := 967) hm rfl rfl (fun c468 => ?_) (fun c468 => ?_)
      · refine r_iinc hm rfl (hr := (by omega)) (k := ?_)
        refine r_goto (t := 18) hm rfl (k := ?_)
        exact ih (d - 5) (by omega) (i9 + 5) _ _ (by omega) IC3 IM3 (ok) hx3
      · exact absurd rfl c468
    by_cases s32_9 : w9 = 9
    · refine r_tsw hm rfl 473 (fun q => by omega) (fun q => ⟨441, by rw [s32_9]; rfl, rfl⟩) ?_
      refine r_aload_n hm rfl (k := ?_)
      refine r_aload_n hm rfl (k := ?_)
      refine r_iload_n hm rfl (k := ?_)
      refine r_iconst hm rfl (k := ?_)
      refine r_iadd hm rfl (hr := (by omega)) (k := ?_)
      refine r_iald (hm := hm) (hf := rfl) (hs := (by first | exact (g1.1 _).trans rfl)) (kk := i9 + 1) (hi := by omega) (hn := (by omega)) (hv := (by first | exact hxs _ | exact hx2 _)) (k := ?_)
      refine r_callv (j2 := 87) hm rfl rfl rfl rfl rfl rfl (by first | exact (g1.1 _).trans rfl) (Nat.le_of_ble_eq_true rfl) (Nat.le_of_ble_eq_true rfl) rfl ⟨Nat.le_of_ble_eq_true rfl, Nat.le_of_ble_eq_true rfl, Nat.le_of_ble_eq_true rfl, Nat.le_of_ble_eq_true rfl, Nat.le_of_ble_eq_true rfl⟩ rfl (c_count IC ok) (fun v9 hA p9 => ?_)
      obtain ⟨IC2, fx, e1⟩ := p9
      subst e1
      have IM2 := IM.frC IC2.1 fx
      have hx2 : ∀ k, hA.2.1 0 k = (xs k).toInt := fun k => (fx 0 k (by omega)).trans (hxs k)
      replace g1 := IC2.1
      change RN 0 482 _ _ _ 1099 97602 _
      dsimp only [Option.toList, List.cons_append, List.nil_append]
      refine r_aload_n hm rfl (k := ?_)
      refine r_aload_n hm rfl (k := ?_)
      refine r_iload_n hm rfl (k := ?_)
      refine r_iconst hm rfl (k := ?_)
      refine r_iadd hm rfl (hr := (by omega)) (k := ?_)
      refine r_iald (hm := hm) (hf := rfl) (hs := (by first | exact (g1.1 _).trans rfl)) (kk := i9 + 1) (hi := by omega) (hn := (by omega)) (hv := (by first | exact hxs _ | exact hx2 _)) (k := ?_)
      refine r_callv (j2 := 201) hm rfl rfl rfl rfl rfl rfl (by first | exact (g1.1 _).trans rfl) (Nat.le_of_ble_eq_true rfl) (Nat.le_of_ble_eq_true rfl) rfl ⟨Nat.le_of_ble_eq_true rfl, Nat.le_of_ble_eq_true rfl, Nat.le_of_ble_eq_true rfl, Nat.le_of_ble_eq_true rfl, Nat.le_of_ble_eq_true rfl⟩ rfl (m_count IM2 ok) (fun v9 hB_ p9 => ?_)
      obtain ⟨IM3, fm, e1⟩ := p9
      subst e1
      have fr : FxR hA hB_ := FxR.of fm
      have IC3 := IC2.frR fr
      have hx3 : ∀ k, hB_.2.1 0 k = (xs k).toInt := fun k => (fr.2.2 0 k (fun z => by have z2 : 1085 ≤ 0 := z; omega)).trans (hx2 k)
      change RN 0 491 _ _ _ 1099 97602 _
      dsimp only [Option.toList, List.cons_append, List.nil_append]
      refine r_icmp_eq (t := 967) hm rfl rfl (fun c491 => ?_) (fun c491 => ?_)
      · refine r_iinc hm rfl (hr := (by omega)) (k := ?_)
        refine r_goto (t := 18) hm rfl (k := ?_)
        exact ih (d - 5) (by omega) (i9 + 5) _ _ (by omega) IC3 IM3 (ok) hx3
      · exact absurd rfl c491
    by_cases s32_10 : w9 = 10
    · refine r_tsw hm rfl 496 (fun q => by omega) (fun q => ⟨464, by rw [s32_10]; rfl, rfl⟩) ?_
      refine r_aload_n hm rfl (k := ?_)
      refine r_aload_n hm rfl (k := ?_)
      refine r_iload_n hm rfl (k := ?_)
      refine r_iconst hm rfl (k := ?_)
      refine r_iadd hm rfl (hr := (by omega)) (k := ?_)
      refine r_iald (hm := hm) (hf := rfl) (hs := (by first | exact (g1.1 _).trans rfl)) (kk := i9 + 1) (hi := by omega) (hn := (by omega)) (hv := (by first | exact hxs _ | exact hx2 _)) (k := ?_)
      refine r_callv (j2 := 97) hm rfl rfl rfl rfl rfl rfl (by first | exact (g1.1 _).trans rfl) (Nat.le_of_ble_eq_true rfl) (Nat.le_of_ble_eq_true rfl) rfl ⟨Nat.le_of_ble_eq_true rfl, Nat.le_of_ble_eq_true rfl, Nat.le_of_ble_eq_true rfl, Nat.le_of_ble_eq_true rfl, Nat.le_of_ble_eq_true rfl⟩ rfl (c_set IC ok) (fun v9 hA p9 => ?_)
      obtain ⟨IC2, fx, e1⟩ := p9
      subst e1
      have IM2 := IM.frC IC2.1 fx
      have hx2 : ∀ k, hA.2.1 0 k = (xs k).toInt := fun k => (fx 0 k (by omega)).trans (hxs k)
      replace g1 := IC2.1
      change RN 0 505 _ _ _ 1099 97602 _
      dsimp only [Option.toList, List.cons_append, List.nil_append]
      refine r_aload_n hm rfl (k := ?_)
      refine r_aload_n hm rfl (k := ?_)
      refine r_iload_n hm rfl (k := ?_)
      refine r_iconst hm rfl (k := ?_)
      refine r_iadd hm rfl (hr := (by omega)) (k := ?_)
      refine r_iald (hm := hm) (hf := rfl) (hs := (by first | exact (g1.1 _).trans rfl)) (kk := i9 + 1) (hi := by omega) (hn := (by omega)) (hv := (by first | exact hxs _ | exact hx2 _)) (k := ?_)
      refine r_callv (j2 := 207) hm rfl rfl rfl rfl rfl rfl (by first | exact (g1.1 _).trans rfl) (Nat.le_of_ble_eq_true rfl) (Nat.le_of_ble_eq_true rfl) rfl ⟨Nat.le_of_ble_eq_true rfl, Nat.le_of_ble_eq_true rfl, Nat.le_of_ble_eq_true rfl, Nat.le_of_ble_eq_true rfl, Nat.le_of_ble_eq_true rfl⟩ rfl (m_set IM2 ok (hI _)) (fun v9 hB_ p9 => ?_)
      obtain ⟨IM3, fm, e1⟩ := p9
      subst e1
      have fr : FxR hA hB_ := FxR.of fm
      have IC3 := IC2.frR fr
      have hx3 : ∀ k, hB_.2.1 0 k = (xs k).toInt := fun k => (fr.2.2 0 k (fun z => by have z2 : 1085 ≤ 0 := z; omega)).trans (hx2 k)
      change RN 0 514 _ _ _ 1099 97602 _
      dsimp only [Option.toList, List.cons_append, List.nil_append]
      refine r_icmp_eq (t := 967) hm rfl rfl (fun c514 => ?_) (fun c514 => ?_)
      · refine r_iinc hm rfl (hr := (by omega)) (k := ?_)
        refine r_goto (t := 18) hm rfl (k := ?_)
        exact ih (d - 5) (by omega) (i9 + 5) _ _ (by omega) IC3 IM3 (ok) hx3
      · exact absurd rfl c514
    by_cases s32_11 : w9 = 11
    · refine r_tsw hm rfl 519 (fun q => by omega) (fun q => ⟨487, by rw [s32_11]; rfl, rfl⟩) ?_
      refine r_aload_n hm rfl (k := ?_)
      refine r_aload_n hm rfl (k := ?_)
      refine r_iload_n hm rfl (k := ?_)
      refine r_iconst hm rfl (k := ?_)
      refine r_iadd hm rfl (hr := (by omega)) (k := ?_)
      refine r_iald (hm := hm) (hf := rfl) (hs := (by first | exact (g1.1 _).trans rfl)) (kk := i9 + 1) (hi := by omega) (hn := (by omega)) (hv := (by first | exact hxs _ | exact hx2 _)) (k := ?_)
      refine r_aload_n hm rfl (k := ?_)
      refine r_iload_n hm rfl (k := ?_)
      refine r_iconst hm rfl (k := ?_)
      refine r_iadd hm rfl (hr := (by omega)) (k := ?_)
      refine r_iald (hm := hm) (hf := rfl) (hs := (by first | exact (g1.1 _).trans rfl)) (kk := i9 + 2) (hi := by omega) (hn := (by omega)) (hv := (by first | exact hxs _ | exact hx2 _)) (k := ?_)
      refine r_callv (j2 := 98) hm rfl rfl rfl rfl rfl rfl (by first | exact (g1.1 _).trans rfl) (Nat.le_of_ble_eq_true rfl) (Nat.le_of_ble_eq_true rfl) rfl ⟨Nat.le_of_ble_eq_true rfl, Nat.le_of_ble_eq_true rfl, Nat.le_of_ble_eq_true rfl, Nat.le_of_ble_eq_true rfl, Nat.le_of_ble_eq_true rfl⟩ rfl (c_page IC ok) (fun v9 hA p9 => ?_)
      obtain ⟨IC2, fx, e1⟩ := p9
      subst e1
      have IM2 := IM.frC IC2.1 fx
      have hx2 : ∀ k, hA.2.1 0 k = (xs k).toInt := fun k => (fx 0 k (by omega)).trans (hxs k)
      replace g1 := IC2.1
      change RN 0 533 _ _ _ 1099 97602 _
      dsimp only [Option.toList, List.cons_append, List.nil_append]
      refine r_aload_n hm rfl (k := ?_)
      refine r_aload_n hm rfl (k := ?_)
      refine r_iload_n hm rfl (k := ?_)
      refine r_iconst hm rfl (k := ?_)
      refine r_iadd hm rfl (hr := (by omega)) (k := ?_)
      refine r_iald (hm := hm) (hf := rfl) (hs := (by first | exact (g1.1 _).trans rfl)) (kk := i9 + 1) (hi := by omega) (hn := (by omega)) (hv := (by first | exact hxs _ | exact hx2 _)) (k := ?_)
      refine r_aload_n hm rfl (k := ?_)
      refine r_iload_n hm rfl (k := ?_)
      refine r_iconst hm rfl (k := ?_)
      refine r_iadd hm rfl (hr := (by omega)) (k := ?_)
      refine r_iald (hm := hm) (hf := rfl) (hs := (by first | exact (g1.1 _).trans rfl)) (kk := i9 + 2) (hi := by omega) (hn := (by omega)) (hv := (by first | exact hxs _ | exact hx2 _)) (k := ?_)
      refine r_callv (j2 := 208) hm rfl rfl rfl rfl rfl rfl (by first | exact (g1.1 _).trans rfl) (Nat.le_of_ble_eq_true rfl) (Nat.le_of_ble_eq_true rfl) rfl ⟨Nat.le_of_ble_eq_true rfl, Nat.le_of_ble_eq_true rfl, Nat.le_of_ble_eq_true rfl, Nat.le_of_ble_eq_true rfl, Nat.le_of_ble_eq_true rfl⟩ rfl (m_page IM2 ok (hI _) (hI _)) (fun v9 hB_ p9 => ?_)
      obtain ⟨IM3, fm, e1⟩ := p9
      subst e1
      have fr : FxR hA hB_ := FxR.of fm
      have IC3 := IC2.frR fr
      have hx3 : ∀ k, hB_.2.1 0 k = (xs k).toInt := fun k => (fr.2.2 0 k (fun z => by have z2 : 1085 ≤ 0 := z; omega)).trans (hx2 k)
      change RN 0 547 _ _ _ 1099 97602 _
      dsimp only [Option.toList, List.cons_append, List.nil_append]
      refine r_icmp_eq (t := 967) hm rfl rfl (fun c547 => ?_) (fun c547 => ?_)
      · refine r_iinc hm rfl (hr := (by omega)) (k := ?_)
        refine r_goto (t := 18) hm rfl (k := ?_)
        exact ih (d - 5) (by omega) (i9 + 5) _ _ (by omega) IC3 IM3 (ok) hx3
      · exact absurd rfl c547
    by_cases s32_12 : w9 = 12
    · refine r_tsw hm rfl 552 (fun q => by omega) (fun q => ⟨520, by rw [s32_12]; rfl, rfl⟩) ?_
      refine r_aload_n hm rfl (k := ?_)
      refine r_aload_n hm rfl (k := ?_)
      refine r_iload_n hm rfl (k := ?_)
      refine r_iconst hm rfl (k := ?_)
      refine r_iadd hm rfl (hr := (by omega)) (k := ?_)
      refine r_iald (hm := hm) (hf := rfl) (hs := (by first | exact (g1.1 _).trans rfl)) (kk := i9 + 1) (hi := by omega) (hn := (by omega)) (hv := (by first | exact hxs _ | exact hx2 _)) (k := ?_)
      refine r_callv (j2 := 99) hm rfl rfl rfl rfl rfl rfl (by first | exact (g1.1 _).trans rfl) (Nat.le_of_ble_eq_true rfl) (Nat.le_of_ble_eq_true rfl) rfl ⟨Nat.le_of_ble_eq_true rfl, Nat.le_of_ble_eq_true rfl, Nat.le_of_ble_eq_true rfl, Nat.le_of_ble_eq_true rfl, Nat.le_of_ble_eq_true rfl⟩ rfl (c_used IC ok) (fun v9 hA p9 => ?_)
      obtain ⟨IC2, fx, e1⟩ := p9
      subst e1
      have IM2 := IM.frC IC2.1 fx
      have hx2 : ∀ k, hA.2.1 0 k = (xs k).toInt := fun k => (fx 0 k (by omega)).trans (hxs k)
      replace g1 := IC2.1
      change RN 0 561 _ _ _ 1099 97602 _
      dsimp only [Option.toList, List.cons_append, List.nil_append]
      refine r_aload_n hm rfl (k := ?_)
      refine r_aload_n hm rfl (k := ?_)
      refine r_iload_n hm rfl (k := ?_)
      refine r_iconst hm rfl (k := ?_)
      refine r_iadd hm rfl (hr := (by omega)) (k := ?_)
      refine r_iald (hm := hm) (hf := rfl) (hs := (by first | exact (g1.1 _).trans rfl)) (kk := i9 + 1) (hi := by omega) (hn := (by omega)) (hv := (by first | exact hxs _ | exact hx2 _)) (k := ?_)
      refine r_callv (j2 := 209) hm rfl rfl rfl rfl rfl rfl (by first | exact (g1.1 _).trans rfl) (Nat.le_of_ble_eq_true rfl) (Nat.le_of_ble_eq_true rfl) rfl ⟨Nat.le_of_ble_eq_true rfl, Nat.le_of_ble_eq_true rfl, Nat.le_of_ble_eq_true rfl, Nat.le_of_ble_eq_true rfl, Nat.le_of_ble_eq_true rfl⟩ rfl (m_used IM2 ok (hI _)) (fun v9 hB_ p9 => ?_)
      obtain ⟨IM3, fm, e1⟩ := p9
      subst e1
      have fr : FxR hA hB_ := FxR.of fm
      have IC3 := IC2.frR fr
      have hx3 : ∀ k, hB_.2.1 0 k = (xs k).toInt := fun k => (fr.2.2 0 k (fun z => by have z2 : 1085 ≤ 0 := z; omega)).trans (hx2 k)
      change RN 0 570 _ _ _ 1099 97602 _
      dsimp only [Option.toList, List.cons_append, List.nil_append]
      refine r_icmp_eq (t := 967) hm rfl rfl (fun c570 => ?_) (fun c570 => ?_)
      · refine r_iinc hm rfl (hr := (by omega)) (k := ?_)
        refine r_goto (t := 18) hm rfl (k := ?_)
        exact ih (d - 5) (by omega) (i9 + 5) _ _ (by omega) IC3 IM3 (ok) hx3
      · exact absurd rfl c570
    by_cases s32_13 : w9 = 13
    · refine r_tsw hm rfl 575 (fun q => by omega) (fun q => ⟨543, by rw [s32_13]; rfl, rfl⟩) ?_
      refine r_aload_n hm rfl (k := ?_)
      refine r_aload_n hm rfl (k := ?_)
      refine r_iload_n hm rfl (k := ?_)
      refine r_iconst hm rfl (k := ?_)
      refine r_iadd hm rfl (hr := (by omega)) (k := ?_)
      refine r_iald (hm := hm) (hf := rfl) (hs := (by first | exact (g1.1 _).trans rfl)) (kk := i9 + 1) (hi := by omega) (hn := (by omega)) (hv := (by first | exact hxs _ | exact hx2 _)) (k := ?_)
      refine r_callv (j2 := 100) hm rfl rfl rfl rfl rfl rfl (by first | exact (g1.1 _).trans rfl) (Nat.le_of_ble_eq_true rfl) (Nat.le_of_ble_eq_true rfl) rfl ⟨Nat.le_of_ble_eq_true rfl, Nat.le_of_ble_eq_true rfl, Nat.le_of_ble_eq_true rfl, Nat.le_of_ble_eq_true rfl, Nat.le_of_ble_eq_true rfl⟩ rfl (c_round IC ok) (fun v9 hA p9 => ?_)
      obtain ⟨IC2, fx, e1⟩ := p9
      subst e1
      have IM2 := IM.frC IC2.1 fx
      have hx2 : ∀ k, hA.2.1 0 k = (xs k).toInt := fun k => (fx 0 k (by omega)).trans (hxs k)
      replace g1 := IC2.1
      change RN 0 584 _ _ _ 1099 97602 _
      dsimp only [Option.toList, List.cons_append, List.nil_append]
      refine r_aload_n hm rfl (k := ?_)
      refine r_aload_n hm rfl (k := ?_)
      refine r_iload_n hm rfl (k := ?_)
      refine r_iconst hm rfl (k := ?_)
      refine r_iadd hm rfl (hr := (by omega)) (k := ?_)
      refine r_iald (hm := hm) (hf := rfl) (hs := (by first | exact (g1.1 _).trans rfl)) (kk := i9 + 1) (hi := by omega) (hn := (by omega)) (hv := (by first | exact hxs _ | exact hx2 _)) (k := ?_)
      refine r_callv (j2 := 210) hm rfl rfl rfl rfl rfl rfl (by first | exact (g1.1 _).trans rfl) (Nat.le_of_ble_eq_true rfl) (Nat.le_of_ble_eq_true rfl) rfl ⟨Nat.le_of_ble_eq_true rfl, Nat.le_of_ble_eq_true rfl, Nat.le_of_ble_eq_true rfl, Nat.le_of_ble_eq_true rfl, Nat.le_of_ble_eq_true rfl⟩ rfl (m_round IM2 ok (hI _)) (fun v9 hB_ p9 => ?_)
      obtain ⟨IM3, fm, e1⟩ := p9
      subst e1
      have fr : FxR hA hB_ := FxR.of fm
      have IC3 := IC2.frR fr
      have hx3 : ∀ k, hB_.2.1 0 k = (xs k).toInt := fun k => (fr.2.2 0 k (fun z => by have z2 : 1085 ≤ 0 := z; omega)).trans (hx2 k)
      change RN 0 593 _ _ _ 1099 97602 _
      dsimp only [Option.toList, List.cons_append, List.nil_append]
      refine r_icmp_eq (t := 967) hm rfl rfl (fun c593 => ?_) (fun c593 => ?_)
      · refine r_iinc hm rfl (hr := (by omega)) (k := ?_)
        refine r_goto (t := 18) hm rfl (k := ?_)
        exact ih (d - 5) (by omega) (i9 + 5) _ _ (by omega) IC3 IM3 (ok) hx3
      · exact absurd rfl c593
    by_cases s32_14 : w9 = 14
    · refine r_tsw hm rfl 598 (fun q => by omega) (fun q => ⟨566, by rw [s32_14]; rfl, rfl⟩) ?_
      refine r_aload_n hm rfl (k := ?_)
      refine r_aload_n hm rfl (k := ?_)
      refine r_iload_n hm rfl (k := ?_)
      refine r_iconst hm rfl (k := ?_)
      refine r_iadd hm rfl (hr := (by omega)) (k := ?_)
      refine r_iald (hm := hm) (hf := rfl) (hs := (by first | exact (g1.1 _).trans rfl)) (kk := i9 + 1) (hi := by omega) (hn := (by omega)) (hv := (by first | exact hxs _ | exact hx2 _)) (k := ?_)
      refine r_aload_n hm rfl (k := ?_)
      refine r_iload_n hm rfl (k := ?_)
      refine r_iconst hm rfl (k := ?_)
      refine r_iadd hm rfl (hr := (by omega)) (k := ?_)
      refine r_iald (hm := hm) (hf := rfl) (hs := (by first | exact (g1.1 _).trans rfl)) (kk := i9 + 2) (hi := by omega) (hn := (by omega)) (hv := (by first | exact hxs _ | exact hx2 _)) (k := ?_)
      refine r_callv (j2 := 101) hm rfl rfl rfl rfl rfl rfl (by first | exact (g1.1 _).trans rfl) (Nat.le_of_ble_eq_true rfl) (Nat.le_of_ble_eq_true rfl) rfl ⟨Nat.le_of_ble_eq_true rfl, Nat.le_of_ble_eq_true rfl, Nat.le_of_ble_eq_true rfl, Nat.le_of_ble_eq_true rfl, Nat.le_of_ble_eq_true rfl⟩ rfl (c_list IC ok) (fun v9 hA p9 => ?_)
      obtain ⟨IC2, fx, e1⟩ := p9
      subst e1
      have IM2 := IM.frC IC2.1 fx
      have hx2 : ∀ k, hA.2.1 0 k = (xs k).toInt := fun k => (fx 0 k (by omega)).trans (hxs k)
      replace g1 := IC2.1
      change RN 0 612 _ _ _ 1099 97602 _
      dsimp only [Option.toList, List.cons_append, List.nil_append]
      refine r_aload_n hm rfl (k := ?_)
      refine r_aload_n hm rfl (k := ?_)
      refine r_iload_n hm rfl (k := ?_)
      refine r_iconst hm rfl (k := ?_)
      refine r_iadd hm rfl (hr := (by omega)) (k := ?_)
      refine r_iald (hm := hm) (hf := rfl) (hs := (by first | exact (g1.1 _).trans rfl)) (kk := i9 + 1) (hi := by omega) (hn := (by omega)) (hv := (by first | exact hxs _ | exact hx2 _)) (k := ?_)
      refine r_aload_n hm rfl (k := ?_)
      refine r_iload_n hm rfl (k := ?_)
      refine r_iconst hm rfl (k := ?_)
      refine r_iadd hm rfl (hr := (by omega)) (k := ?_)
      refine r_iald (hm := hm) (hf := rfl) (hs := (by first | exact (g1.1 _).trans rfl)) (kk := i9 + 2) (hi := by omega) (hn := (by omega)) (hv := (by first | exact hxs _ | exact hx2 _)) (k := ?_)
      refine r_callv (j2 := 211) hm rfl rfl rfl rfl rfl rfl (by first | exact (g1.1 _).trans rfl) (Nat.le_of_ble_eq_true rfl) (Nat.le_of_ble_eq_true rfl) rfl ⟨Nat.le_of_ble_eq_true rfl, Nat.le_of_ble_eq_true rfl, Nat.le_of_ble_eq_true rfl, Nat.le_of_ble_eq_true rfl, Nat.le_of_ble_eq_true rfl⟩ rfl (m_list IM2 ok (hI _) (hI _)) (fun v9 hB_ p9 => ?_)
      obtain ⟨IM3, fm, e1⟩ := p9
      subst e1
      have fr : FxR hA hB_ := FxR.of fm
      have IC3 := IC2.frR fr
      have hx3 : ∀ k, hB_.2.1 0 k = (xs k).toInt := fun k => (fr.2.2 0 k (fun z => by have z2 : 1085 ≤ 0 := z; omega)).trans (hx2 k)
      change RN 0 626 _ _ _ 1099 97602 _
      dsimp only [Option.toList, List.cons_append, List.nil_append]
      refine r_icmp_eq (t := 967) hm rfl rfl (fun c626 => ?_) (fun c626 => ?_)
      · refine r_iinc hm rfl (hr := (by omega)) (k := ?_)
        refine r_goto (t := 18) hm rfl (k := ?_)
        exact ih (d - 5) (by omega) (i9 + 5) _ _ (by omega) IC3 IM3 (ok) hx3
      · exact absurd rfl c626
    by_cases s32_15 : w9 = 15
    · refine r_tsw hm rfl 631 (fun q => by omega) (fun q => ⟨599, by rw [s32_15]; rfl, rfl⟩) ?_
      refine r_aload_n hm rfl (k := ?_)
      refine r_aload_n hm rfl (k := ?_)
      refine r_iload_n hm rfl (k := ?_)
      refine r_iconst hm rfl (k := ?_)
      refine r_iadd hm rfl (hr := (by omega)) (k := ?_)
      refine r_iald (hm := hm) (hf := rfl) (hs := (by first | exact (g1.1 _).trans rfl)) (kk := i9 + 1) (hi := by omega) (hn := (by omega)) (hv := (by first | exact hxs _ | exact hx2 _)) (k := ?_)
      refine r_aload_n hm rfl (k := ?_)
      refine r_iload_n hm rfl (k := ?_)
      refine r_iconst hm rfl (k := ?_)
      refine r_iadd hm rfl (hr := (by omega)) (k := ?_)
      refine r_iald (hm := hm) (hf := rfl) (hs := (by first | exact (g1.1 _).trans rfl)) (kk := i9 + 2) (hi := by omega) (hn := (by omega)) (hv := (by first | exact hxs _ | exact hx2 _)) (k := ?_)
      refine r_aload_n hm rfl (k := ?_)
      refine r_iload_n hm rfl (k := ?_)
      refine r_iconst hm rfl (k := ?_)
      refine r_iadd hm rfl (hr := (by omega)) (k := ?_)
      refine r_iald (hm := hm) (hf := rfl) (hs := (by first | exact (g1.1 _).trans rfl)) (kk := i9 + 3) (hi := by omega) (hn := (by omega)) (hv := (by first | exact hxs _ | exact hx2 _)) (k := ?_)
      refine r_callv (j2 := 104) hm rfl rfl rfl rfl rfl rfl (by first | exact (g1.1 _).trans rfl) (Nat.le_of_ble_eq_true rfl) (Nat.le_of_ble_eq_true rfl) rfl ⟨Nat.le_of_ble_eq_true rfl, Nat.le_of_ble_eq_true rfl, Nat.le_of_ble_eq_true rfl, Nat.le_of_ble_eq_true rfl, Nat.le_of_ble_eq_true rfl⟩ rfl (c_best IC ok (hI _) (hI _)) (fun v9 hA p9 => ?_)
      obtain ⟨IC2, fx, e1⟩ := p9
      subst e1
      have IM2 := IM.frC IC2.1 fx
      have hx2 : ∀ k, hA.2.1 0 k = (xs k).toInt := fun k => (fx 0 k (by omega)).trans (hxs k)
      replace g1 := IC2.1
      change RN 0 650 _ _ _ 1099 97602 _
      dsimp only [Option.toList, List.cons_append, List.nil_append]
      refine r_aload_n hm rfl (k := ?_)
      refine r_aload_n hm rfl (k := ?_)
      refine r_iload_n hm rfl (k := ?_)
      refine r_iconst hm rfl (k := ?_)
      refine r_iadd hm rfl (hr := (by omega)) (k := ?_)
      refine r_iald (hm := hm) (hf := rfl) (hs := (by first | exact (g1.1 _).trans rfl)) (kk := i9 + 1) (hi := by omega) (hn := (by omega)) (hv := (by first | exact hxs _ | exact hx2 _)) (k := ?_)
      refine r_aload_n hm rfl (k := ?_)
      refine r_iload_n hm rfl (k := ?_)
      refine r_iconst hm rfl (k := ?_)
      refine r_iadd hm rfl (hr := (by omega)) (k := ?_)
      refine r_iald (hm := hm) (hf := rfl) (hs := (by first | exact (g1.1 _).trans rfl)) (kk := i9 + 2) (hi := by omega) (hn := (by omega)) (hv := (by first | exact hxs _ | exact hx2 _)) (k := ?_)
      refine r_aload_n hm rfl (k := ?_)
      refine r_iload_n hm rfl (k := ?_)
      refine r_iconst hm rfl (k := ?_)
      refine r_iadd hm rfl (hr := (by omega)) (k := ?_)
      refine r_iald (hm := hm) (hf := rfl) (hs := (by first | exact (g1.1 _).trans rfl)) (kk := i9 + 3) (hi := by omega) (hn := (by omega)) (hv := (by first | exact hxs _ | exact hx2 _)) (k := ?_)
      refine r_callv (j2 := 212) hm rfl rfl rfl rfl rfl rfl (by first | exact (g1.1 _).trans rfl) (Nat.le_of_ble_eq_true rfl) (Nat.le_of_ble_eq_true rfl) rfl ⟨Nat.le_of_ble_eq_true rfl, Nat.le_of_ble_eq_true rfl, Nat.le_of_ble_eq_true rfl, Nat.le_of_ble_eq_true rfl, Nat.le_of_ble_eq_true rfl⟩ rfl (m_best IM2 ok (hI _) (hI _) (hI _)) (fun v9 hB_ p9 => ?_)
      obtain ⟨IM3, fm, e1⟩ := p9
      subst e1
      have fr : FxR hA hB_ := FxR.of fm
      have IC3 := IC2.frR fr
      have hx3 : ∀ k, hB_.2.1 0 k = (xs k).toInt := fun k => (fr.2.2 0 k (fun z => by have z2 : 1085 ≤ 0 := z; omega)).trans (hx2 k)
      change RN 0 669 _ _ _ 1099 97602 _
      dsimp only [Option.toList, List.cons_append, List.nil_append]
      refine r_icmp_eq (t := 967) hm rfl rfl (fun c669 => ?_) (fun c669 => ?_)
      · refine r_iinc hm rfl (hr := (by omega)) (k := ?_)
        refine r_goto (t := 18) hm rfl (k := ?_)
        exact ih (d - 5) (by omega) (i9 + 5) _ _ (by omega) IC3 IM3 (ok) hx3
      · exact absurd rfl c669
    by_cases s32_16 : w9 = 16
    · refine r_tsw hm rfl 674 (fun q => by omega) (fun q => ⟨642, by rw [s32_16]; rfl, rfl⟩) ?_
      refine r_aload_n hm rfl (k := ?_)
      refine r_aload_n hm rfl (k := ?_)
      refine r_iload_n hm rfl (k := ?_)
      refine r_iconst hm rfl (k := ?_)
      refine r_iadd hm rfl (hr := (by omega)) (k := ?_)
      refine r_iald (hm := hm) (hf := rfl) (hs := (by first | exact (g1.1 _).trans rfl)) (kk := i9 + 1) (hi := by omega) (hn := (by omega)) (hv := (by first | exact hxs _ | exact hx2 _)) (k := ?_)
      refine r_callv (j2 := 105) hm rfl rfl rfl rfl rfl rfl (by first | exact (g1.1 _).trans rfl) (Nat.le_of_ble_eq_true rfl) (Nat.le_of_ble_eq_true rfl) rfl ⟨Nat.le_of_ble_eq_true rfl, Nat.le_of_ble_eq_true rfl, Nat.le_of_ble_eq_true rfl, Nat.le_of_ble_eq_true rfl, Nat.le_of_ble_eq_true rfl⟩ rfl (c_means IC ok) (fun v9 hA p9 => ?_)
      obtain ⟨IC2, fx, e1⟩ := p9
      subst e1
      have IM2 := IM.frC IC2.1 fx
      have hx2 : ∀ k, hA.2.1 0 k = (xs k).toInt := fun k => (fx 0 k (by omega)).trans (hxs k)
      replace g1 := IC2.1
      change RN 0 683 _ _ _ 1099 97602 _
      dsimp only [Option.toList, List.cons_append, List.nil_append]
      refine r_aload_n hm rfl (k := ?_)
      refine r_aload_n hm rfl (k := ?_)
      refine r_iload_n hm rfl (k := ?_)
      refine r_iconst hm rfl (k := ?_)
      refine r_iadd hm rfl (hr := (by omega)) (k := ?_)
      refine r_iald (hm := hm) (hf := rfl) (hs := (by first | exact (g1.1 _).trans rfl)) (kk := i9 + 1) (hi := by omega) (hn := (by omega)) (hv := (by first | exact hxs _ | exact hx2 _)) (k := ?_)
      refine r_callv (j2 := 213) hm rfl rfl rfl rfl rfl rfl (by first | exact (g1.1 _).trans rfl) (Nat.le_of_ble_eq_true rfl) (Nat.le_of_ble_eq_true rfl) rfl ⟨Nat.le_of_ble_eq_true rfl, Nat.le_of_ble_eq_true rfl, Nat.le_of_ble_eq_true rfl, Nat.le_of_ble_eq_true rfl, Nat.le_of_ble_eq_true rfl⟩ rfl (m_means IM2 ok (hI _)) (fun v9 hB_ p9 => ?_)
      obtain ⟨IM3, fm, e1⟩ := p9
      subst e1
      have fr : FxR hA hB_ := FxR.of fm
      have IC3 := IC2.frR fr
      have hx3 : ∀ k, hB_.2.1 0 k = (xs k).toInt := fun k => (fr.2.2 0 k (fun z => by have z2 : 1085 ≤ 0 := z; omega)).trans (hx2 k)
      change RN 0 692 _ _ _ 1099 97602 _
      dsimp only [Option.toList, List.cons_append, List.nil_append]
      refine r_icmp_eq (t := 967) hm rfl rfl (fun c692 => ?_) (fun c692 => ?_)
      · refine r_iinc hm rfl (hr := (by omega)) (k := ?_)
        refine r_goto (t := 18) hm rfl (k := ?_)
        exact ih (d - 5) (by omega) (i9 + 5) _ _ (by omega) IC3 IM3 (ok) hx3
      · exact absurd rfl c692
    by_cases s32_17 : w9 = 17
    · refine r_tsw hm rfl 697 (fun q => by omega) (fun q => ⟨665, by rw [s32_17]; rfl, rfl⟩) ?_
      refine r_aload_n hm rfl (k := ?_)
      refine r_aload_n hm rfl (k := ?_)
      refine r_iload_n hm rfl (k := ?_)
      refine r_iconst hm rfl (k := ?_)
      refine r_iadd hm rfl (hr := (by omega)) (k := ?_)
      refine r_iald (hm := hm) (hf := rfl) (hs := (by first | exact (g1.1 _).trans rfl)) (kk := i9 + 1) (hi := by omega) (hn := (by omega)) (hv := (by first | exact hxs _ | exact hx2 _)) (k := ?_)
      refine r_callv (j2 := 106) hm rfl rfl rfl rfl rfl rfl (by first | exact (g1.1 _).trans rfl) (Nat.le_of_ble_eq_true rfl) (Nat.le_of_ble_eq_true rfl) rfl ⟨Nat.le_of_ble_eq_true rfl, Nat.le_of_ble_eq_true rfl, Nat.le_of_ble_eq_true rfl, Nat.le_of_ble_eq_true rfl, Nat.le_of_ble_eq_true rfl⟩ rfl (c_called IC ok) (fun v9 hA p9 => ?_)
      obtain ⟨IC2, fx, e1⟩ := p9
      subst e1
      have IM2 := IM.frC IC2.1 fx
      have hx2 : ∀ k, hA.2.1 0 k = (xs k).toInt := fun k => (fx 0 k (by omega)).trans (hxs k)
      replace g1 := IC2.1
      change RN 0 706 _ _ _ 1099 97602 _
      dsimp only [Option.toList, List.cons_append, List.nil_append]
      refine r_aload_n hm rfl (k := ?_)
      refine r_aload_n hm rfl (k := ?_)
      refine r_iload_n hm rfl (k := ?_)
      refine r_iconst hm rfl (k := ?_)
      refine r_iadd hm rfl (hr := (by omega)) (k := ?_)
      refine r_iald (hm := hm) (hf := rfl) (hs := (by first | exact (g1.1 _).trans rfl)) (kk := i9 + 1) (hi := by omega) (hn := (by omega)) (hv := (by first | exact hxs _ | exact hx2 _)) (k := ?_)
      refine r_callv (j2 := 214) hm rfl rfl rfl rfl rfl rfl (by first | exact (g1.1 _).trans rfl) (Nat.le_of_ble_eq_true rfl) (Nat.le_of_ble_eq_true rfl) rfl ⟨Nat.le_of_ble_eq_true rfl, Nat.le_of_ble_eq_true rfl, Nat.le_of_ble_eq_true rfl, Nat.le_of_ble_eq_true rfl, Nat.le_of_ble_eq_true rfl⟩ rfl (m_called IM2 ok (hI _)) (fun v9 hB_ p9 => ?_)
      obtain ⟨IM3, fm, e1⟩ := p9
      subst e1
      have fr : FxR hA hB_ := FxR.of fm
      have IC3 := IC2.frR fr
      have hx3 : ∀ k, hB_.2.1 0 k = (xs k).toInt := fun k => (fr.2.2 0 k (fun z => by have z2 : 1085 ≤ 0 := z; omega)).trans (hx2 k)
      change RN 0 715 _ _ _ 1099 97602 _
      dsimp only [Option.toList, List.cons_append, List.nil_append]
      refine r_icmp_eq (t := 967) hm rfl rfl (fun c715 => ?_) (fun c715 => ?_)
      · refine r_iinc hm rfl (hr := (by omega)) (k := ?_)
        refine r_goto (t := 18) hm rfl (k := ?_)
        exact ih (d - 5) (by omega) (i9 + 5) _ _ (by omega) IC3 IM3 (ok) hx3
      · exact absurd rfl c715
    by_cases s32_18 : w9 = 18
    · refine r_tsw hm rfl 720 (fun q => by omega) (fun q => ⟨688, by rw [s32_18]; rfl, rfl⟩) ?_
      refine r_aload_n hm rfl (k := ?_)
      refine r_aload_n hm rfl (k := ?_)
      refine r_iload_n hm rfl (k := ?_)
      refine r_iconst hm rfl (k := ?_)
      refine r_iadd hm rfl (hr := (by omega)) (k := ?_)
      refine r_iald (hm := hm) (hf := rfl) (hs := (by first | exact (g1.1 _).trans rfl)) (kk := i9 + 1) (hi := by omega) (hn := (by omega)) (hv := (by first | exact hxs _ | exact hx2 _)) (k := ?_)
      refine r_aload_n hm rfl (k := ?_)
      refine r_iload_n hm rfl (k := ?_)
      refine r_iconst hm rfl (k := ?_)
      refine r_iadd hm rfl (hr := (by omega)) (k := ?_)
      refine r_iald (hm := hm) (hf := rfl) (hs := (by first | exact (g1.1 _).trans rfl)) (kk := i9 + 2) (hi := by omega) (hn := (by omega)) (hv := (by first | exact hxs _ | exact hx2 _)) (k := ?_)
      refine r_callv (j2 := 108) hm rfl rfl rfl rfl rfl rfl (by first | exact (g1.1 _).trans rfl) (Nat.le_of_ble_eq_true rfl) (Nat.le_of_ble_eq_true rfl) rfl ⟨Nat.le_of_ble_eq_true rfl, Nat.le_of_ble_eq_true rfl, Nat.le_of_ble_eq_true rfl, Nat.le_of_ble_eq_true rfl, Nat.le_of_ble_eq_true rfl⟩ rfl (c_far IC ok) (fun v9 hA p9 => ?_)
      obtain ⟨IC2, fx, e1⟩ := p9
      subst e1
      have IM2 := IM.frC IC2.1 fx
      have hx2 : ∀ k, hA.2.1 0 k = (xs k).toInt := fun k => (fx 0 k (by omega)).trans (hxs k)
      replace g1 := IC2.1
      change RN 0 734 _ _ _ 1099 97602 _
      dsimp only [Option.toList, List.cons_append, List.nil_append]
      refine r_aload_n hm rfl (k := ?_)
      refine r_aload_n hm rfl (k := ?_)
      refine r_iload_n hm rfl (k := ?_)
      refine r_iconst hm rfl (k := ?_)
      refine r_iadd hm rfl (hr := (by omega)) (k := ?_)
      refine r_iald (hm := hm) (hf := rfl) (hs := (by first | exact (g1.1 _).trans rfl)) (kk := i9 + 1) (hi := by omega) (hn := (by omega)) (hv := (by first | exact hxs _ | exact hx2 _)) (k := ?_)
      refine r_aload_n hm rfl (k := ?_)
      refine r_iload_n hm rfl (k := ?_)
      refine r_iconst hm rfl (k := ?_)
      refine r_iadd hm rfl (hr := (by omega)) (k := ?_)
      refine r_iald (hm := hm) (hf := rfl) (hs := (by first | exact (g1.1 _).trans rfl)) (kk := i9 + 2) (hi := by omega) (hn := (by omega)) (hv := (by first | exact hxs _ | exact hx2 _)) (k := ?_)
      refine r_callv (j2 := 215) hm rfl rfl rfl rfl rfl rfl (by first | exact (g1.1 _).trans rfl) (Nat.le_of_ble_eq_true rfl) (Nat.le_of_ble_eq_true rfl) rfl ⟨Nat.le_of_ble_eq_true rfl, Nat.le_of_ble_eq_true rfl, Nat.le_of_ble_eq_true rfl, Nat.le_of_ble_eq_true rfl, Nat.le_of_ble_eq_true rfl⟩ rfl (m_far IM2 ok (hI _) (hI _)) (fun v9 hB_ p9 => ?_)
      obtain ⟨IM3, fm, e1⟩ := p9
      subst e1
      have fr : FxR hA hB_ := FxR.of fm
      have IC3 := IC2.frR fr
      have hx3 : ∀ k, hB_.2.1 0 k = (xs k).toInt := fun k => (fr.2.2 0 k (fun z => by have z2 : 1085 ≤ 0 := z; omega)).trans (hx2 k)
      change RN 0 748 _ _ _ 1099 97602 _
      dsimp only [Option.toList, List.cons_append, List.nil_append]
      refine r_icmp_eq (t := 967) hm rfl rfl (fun c748 => ?_) (fun c748 => ?_)
      · refine r_iinc hm rfl (hr := (by omega)) (k := ?_)
        refine r_goto (t := 18) hm rfl (k := ?_)
        exact ih (d - 5) (by omega) (i9 + 5) _ _ (by omega) IC3 IM3 (ok) hx3
      · exact absurd rfl c748
    by_cases s32_19 : w9 = 19
    · refine r_tsw hm rfl 753 (fun q => by omega) (fun q => ⟨721, by rw [s32_19]; rfl, rfl⟩) ?_
      refine r_aload_n hm rfl (k := ?_)
      refine r_aload_n hm rfl (k := ?_)
      refine r_iload_n hm rfl (k := ?_)
      refine r_iconst hm rfl (k := ?_)
      refine r_iadd hm rfl (hr := (by omega)) (k := ?_)
      refine r_iald (hm := hm) (hf := rfl) (hs := (by first | exact (g1.1 _).trans rfl)) (kk := i9 + 1) (hi := by omega) (hn := (by omega)) (hv := (by first | exact hxs _ | exact hx2 _)) (k := ?_)
      refine r_callv (j2 := 114) hm rfl rfl rfl rfl rfl rfl (by first | exact (g1.1 _).trans rfl) (Nat.le_of_ble_eq_true rfl) (Nat.le_of_ble_eq_true rfl) rfl ⟨Nat.le_of_ble_eq_true rfl, Nat.le_of_ble_eq_true rfl, Nat.le_of_ble_eq_true rfl, Nat.le_of_ble_eq_true rfl, Nat.le_of_ble_eq_true rfl⟩ rfl (c_knotted IC ok) (fun v9 hA p9 => ?_)
      obtain ⟨IC2, fx, e1⟩ := p9
      subst e1
      have IM2 := IM.frC IC2.1 fx
      have hx2 : ∀ k, hA.2.1 0 k = (xs k).toInt := fun k => (fx 0 k (by omega)).trans (hxs k)
      replace g1 := IC2.1
      change RN 0 762 _ _ _ 1099 97602 _
      dsimp only [Option.toList, List.cons_append, List.nil_append]
      refine r_aload_n hm rfl (k := ?_)
      refine r_aload_n hm rfl (k := ?_)
      refine r_iload_n hm rfl (k := ?_)
      refine r_iconst hm rfl (k := ?_)
      refine r_iadd hm rfl (hr := (by omega)) (k := ?_)
      refine r_iald (hm := hm) (hf := rfl) (hs := (by first | exact (g1.1 _).trans rfl)) (kk := i9 + 1) (hi := by omega) (hn := (by omega)) (hv := (by first | exact hxs _ | exact hx2 _)) (k := ?_)
      refine r_callv (j2 := 217) hm rfl rfl rfl rfl rfl rfl (by first | exact (g1.1 _).trans rfl) (Nat.le_of_ble_eq_true rfl) (Nat.le_of_ble_eq_true rfl) rfl ⟨Nat.le_of_ble_eq_true rfl, Nat.le_of_ble_eq_true rfl, Nat.le_of_ble_eq_true rfl, Nat.le_of_ble_eq_true rfl, Nat.le_of_ble_eq_true rfl⟩ rfl (m_knotted IM2 ok (hI _)) (fun v9 hB_ p9 => ?_)
      obtain ⟨IM3, fm, e1⟩ := p9
      subst e1
      have fr : FxR hA hB_ := FxR.of fm
      have IC3 := IC2.frR fr
      have hx3 : ∀ k, hB_.2.1 0 k = (xs k).toInt := fun k => (fr.2.2 0 k (fun z => by have z2 : 1085 ≤ 0 := z; omega)).trans (hx2 k)
      change RN 0 771 _ _ _ 1099 97602 _
      dsimp only [Option.toList, List.cons_append, List.nil_append]
      refine r_icmp_eq (t := 967) hm rfl rfl (fun c771 => ?_) (fun c771 => ?_)
      · refine r_iinc hm rfl (hr := (by omega)) (k := ?_)
        refine r_goto (t := 18) hm rfl (k := ?_)
        exact ih (d - 5) (by omega) (i9 + 5) _ _ (by omega) IC3 IM3 (ok) hx3
      · exact absurd rfl c771
    by_cases s32_20 : w9 = 20
    · refine r_tsw hm rfl 776 (fun q => by omega) (fun q => ⟨744, by rw [s32_20]; rfl, rfl⟩) ?_
      refine r_aload_n hm rfl (k := ?_)
      refine r_aload_n hm rfl (k := ?_)
      refine r_iload_n hm rfl (k := ?_)
      refine r_iconst hm rfl (k := ?_)
      refine r_iadd hm rfl (hr := (by omega)) (k := ?_)
      refine r_iald (hm := hm) (hf := rfl) (hs := (by first | exact (g1.1 _).trans rfl)) (kk := i9 + 1) (hi := by omega) (hn := (by omega)) (hv := (by first | exact hxs _ | exact hx2 _)) (k := ?_)
      refine r_callv (j2 := 118) hm rfl rfl rfl rfl rfl rfl (by first | exact (g1.1 _).trans rfl) (Nat.le_of_ble_eq_true rfl) (Nat.le_of_ble_eq_true rfl) rfl ⟨Nat.le_of_ble_eq_true rfl, Nat.le_of_ble_eq_true rfl, Nat.le_of_ble_eq_true rfl, Nat.le_of_ble_eq_true rfl, Nat.le_of_ble_eq_true rfl⟩ rfl (c_keep IC ok) (fun v9 hA p9 => ?_)
      obtain ⟨IC2, fx, e1⟩ := p9
      subst e1
      have IM2 := IM.frC IC2.1 fx
      have hx2 : ∀ k, hA.2.1 0 k = (xs k).toInt := fun k => (fx 0 k (by omega)).trans (hxs k)
      replace g1 := IC2.1
      change RN 0 785 _ _ _ 1099 97602 _
      dsimp only [Option.toList, List.cons_append, List.nil_append]
      refine r_aload_n hm rfl (k := ?_)
      refine r_aload_n hm rfl (k := ?_)
      refine r_iload_n hm rfl (k := ?_)
      refine r_iconst hm rfl (k := ?_)
      refine r_iadd hm rfl (hr := (by omega)) (k := ?_)
      refine r_iald (hm := hm) (hf := rfl) (hs := (by first | exact (g1.1 _).trans rfl)) (kk := i9 + 1) (hi := by omega) (hn := (by omega)) (hv := (by first | exact hxs _ | exact hx2 _)) (k := ?_)
      refine r_callv (j2 := 218) hm rfl rfl rfl rfl rfl rfl (by first | exact (g1.1 _).trans rfl) (Nat.le_of_ble_eq_true rfl) (Nat.le_of_ble_eq_true rfl) rfl ⟨Nat.le_of_ble_eq_true rfl, Nat.le_of_ble_eq_true rfl, Nat.le_of_ble_eq_true rfl, Nat.le_of_ble_eq_true rfl, Nat.le_of_ble_eq_true rfl⟩ rfl (m_keep IM2 ok (hI _)) (fun v9 hB_ p9 => ?_)
      obtain ⟨IM3, fm, e1⟩ := p9
      subst e1
      have fr : FxR hA hB_ := FxR.of fm
      have IC3 := IC2.frR fr
      have hx3 : ∀ k, hB_.2.1 0 k = (xs k).toInt := fun k => (fr.2.2 0 k (fun z => by have z2 : 1085 ≤ 0 := z; omega)).trans (hx2 k)
      change RN 0 794 _ _ _ 1099 97602 _
      dsimp only [Option.toList, List.cons_append, List.nil_append]
      refine r_icmp_eq (t := 967) hm rfl rfl (fun c794 => ?_) (fun c794 => ?_)
      · refine r_iinc hm rfl (hr := (by omega)) (k := ?_)
        refine r_goto (t := 18) hm rfl (k := ?_)
        exact ih (d - 5) (by omega) (i9 + 5) _ _ (by omega) IC3 IM3 (oKeep_ok ok) hx3
      · exact absurd rfl c794
    by_cases s32_21 : w9 = 21
    · refine r_tsw hm rfl 799 (fun q => by omega) (fun q => ⟨767, by rw [s32_21]; rfl, rfl⟩) ?_
      refine r_aload_n hm rfl (k := ?_)
      refine r_aload_n hm rfl (k := ?_)
      refine r_iload_n hm rfl (k := ?_)
      refine r_iconst hm rfl (k := ?_)
      refine r_iadd hm rfl (hr := (by omega)) (k := ?_)
      refine r_iald (hm := hm) (hf := rfl) (hs := (by first | exact (g1.1 _).trans rfl)) (kk := i9 + 1) (hi := by omega) (hn := (by omega)) (hv := (by first | exact hxs _ | exact hx2 _)) (k := ?_)
      refine r_callv (j2 := 122) hm rfl rfl rfl rfl rfl rfl (by first | exact (g1.1 _).trans rfl) (Nat.le_of_ble_eq_true rfl) (Nat.le_of_ble_eq_true rfl) rfl ⟨Nat.le_of_ble_eq_true rfl, Nat.le_of_ble_eq_true rfl, Nat.le_of_ble_eq_true rfl, Nat.le_of_ble_eq_true rfl, Nat.le_of_ble_eq_true rfl⟩ rfl (c_back IC ok) (fun v9 hA p9 => ?_)
      obtain ⟨IC2, fx, e1⟩ := p9
      subst e1
      have IM2 := IM.frC IC2.1 fx
      have hx2 : ∀ k, hA.2.1 0 k = (xs k).toInt := fun k => (fx 0 k (by omega)).trans (hxs k)
      replace g1 := IC2.1
      change RN 0 808 _ _ _ 1099 97602 _
      dsimp only [Option.toList, List.cons_append, List.nil_append]
      refine r_aload_n hm rfl (k := ?_)
      refine r_aload_n hm rfl (k := ?_)
      refine r_iload_n hm rfl (k := ?_)
      refine r_iconst hm rfl (k := ?_)
      refine r_iadd hm rfl (hr := (by omega)) (k := ?_)
      refine r_iald (hm := hm) (hf := rfl) (hs := (by first | exact (g1.1 _).trans rfl)) (kk := i9 + 1) (hi := by omega) (hn := (by omega)) (hv := (by first | exact hxs _ | exact hx2 _)) (k := ?_)
      refine r_callv (j2 := 221) hm rfl rfl rfl rfl rfl rfl (by first | exact (g1.1 _).trans rfl) (Nat.le_of_ble_eq_true rfl) (Nat.le_of_ble_eq_true rfl) rfl ⟨Nat.le_of_ble_eq_true rfl, Nat.le_of_ble_eq_true rfl, Nat.le_of_ble_eq_true rfl, Nat.le_of_ble_eq_true rfl, Nat.le_of_ble_eq_true rfl⟩ rfl (m_back IM2 ok (hI _)) (fun v9 hB_ p9 => ?_)
      obtain ⟨IM3, fm, e1⟩ := p9
      subst e1
      have fr : FxR hA hB_ := FxR.of fm
      have IC3 := IC2.frR fr
      have hx3 : ∀ k, hB_.2.1 0 k = (xs k).toInt := fun k => (fr.2.2 0 k (fun z => by have z2 : 1085 ≤ 0 := z; omega)).trans (hx2 k)
      change RN 0 817 _ _ _ 1099 97602 _
      dsimp only [Option.toList, List.cons_append, List.nil_append]
      refine r_icmp_eq (t := 967) hm rfl rfl (fun c817 => ?_) (fun c817 => ?_)
      · refine r_iinc hm rfl (hr := (by omega)) (k := ?_)
        refine r_goto (t := 18) hm rfl (k := ?_)
        exact ih (d - 5) (by omega) (i9 + 5) _ _ (by omega) IC3 IM3 (oBack_ok ok) hx3
      · exact absurd rfl c817
    by_cases s32_22 : w9 = 22
    · refine r_tsw hm rfl 822 (fun q => by omega) (fun q => ⟨790, by rw [s32_22]; rfl, rfl⟩) ?_
      refine r_aload_n hm rfl (k := ?_)
      refine r_aload_n hm rfl (k := ?_)
      refine r_iload_n hm rfl (k := ?_)
      refine r_iconst hm rfl (k := ?_)
      refine r_iadd hm rfl (hr := (by omega)) (k := ?_)
      refine r_iald (hm := hm) (hf := rfl) (hs := (by first | exact (g1.1 _).trans rfl)) (kk := i9 + 1) (hi := by omega) (hn := (by omega)) (hv := (by first | exact hxs _ | exact hx2 _)) (k := ?_)
      refine r_aload_n hm rfl (k := ?_)
      refine r_iload_n hm rfl (k := ?_)
      refine r_iconst hm rfl (k := ?_)
      refine r_iadd hm rfl (hr := (by omega)) (k := ?_)
      refine r_iald (hm := hm) (hf := rfl) (hs := (by first | exact (g1.1 _).trans rfl)) (kk := i9 + 2) (hi := by omega) (hn := (by omega)) (hv := (by first | exact hxs _ | exact hx2 _)) (k := ?_)
      refine r_callv (j2 := 124) hm rfl rfl rfl rfl rfl rfl (by first | exact (g1.1 _).trans rfl) (Nat.le_of_ble_eq_true rfl) (Nat.le_of_ble_eq_true rfl) rfl ⟨Nat.le_of_ble_eq_true rfl, Nat.le_of_ble_eq_true rfl, Nat.le_of_ble_eq_true rfl, Nat.le_of_ble_eq_true rfl, Nat.le_of_ble_eq_true rfl⟩ rfl (c_beside IC ok) (fun v9 hA p9 => ?_)
      obtain ⟨IC2, fx, e1⟩ := p9
      subst e1
      have IM2 := IM.frC IC2.1 fx
      have hx2 : ∀ k, hA.2.1 0 k = (xs k).toInt := fun k => (fx 0 k (by omega)).trans (hxs k)
      replace g1 := IC2.1
      change RN 0 836 _ _ _ 1099 97602 _
      dsimp only [Option.toList, List.cons_append, List.nil_append]
      refine r_aload_n hm rfl (k := ?_)
      refine r_aload_n hm rfl (k := ?_)
      refine r_iload_n hm rfl (k := ?_)
      refine r_iconst hm rfl (k := ?_)
      refine r_iadd hm rfl (hr := (by omega)) (k := ?_)
      refine r_iald (hm := hm) (hf := rfl) (hs := (by first | exact (g1.1 _).trans rfl)) (kk := i9 + 1) (hi := by omega) (hn := (by omega)) (hv := (by first | exact hxs _ | exact hx2 _)) (k := ?_)
      refine r_aload_n hm rfl (k := ?_)
      refine r_iload_n hm rfl (k := ?_)
      refine r_iconst hm rfl (k := ?_)
      refine r_iadd hm rfl (hr := (by omega)) (k := ?_)
      refine r_iald (hm := hm) (hf := rfl) (hs := (by first | exact (g1.1 _).trans rfl)) (kk := i9 + 2) (hi := by omega) (hn := (by omega)) (hv := (by first | exact hxs _ | exact hx2 _)) (k := ?_)
      refine r_callv (j2 := 222) hm rfl rfl rfl rfl rfl rfl (by first | exact (g1.1 _).trans rfl) (Nat.le_of_ble_eq_true rfl) (Nat.le_of_ble_eq_true rfl) rfl ⟨Nat.le_of_ble_eq_true rfl, Nat.le_of_ble_eq_true rfl, Nat.le_of_ble_eq_true rfl, Nat.le_of_ble_eq_true rfl, Nat.le_of_ble_eq_true rfl⟩ rfl (m_beside IM2 ok (hI _) (hI _)) (fun v9 hB_ p9 => ?_)
      obtain ⟨IM3, fm, e1⟩ := p9
      subst e1
      have fr : FxR hA hB_ := FxR.of fm
      have IC3 := IC2.frR fr
      have hx3 : ∀ k, hB_.2.1 0 k = (xs k).toInt := fun k => (fr.2.2 0 k (fun z => by have z2 : 1085 ≤ 0 := z; omega)).trans (hx2 k)
      change RN 0 850 _ _ _ 1099 97602 _
      dsimp only [Option.toList, List.cons_append, List.nil_append]
      refine r_icmp_eq (t := 967) hm rfl rfl (fun c850 => ?_) (fun c850 => ?_)
      · refine r_iinc hm rfl (hr := (by omega)) (k := ?_)
        refine r_goto (t := 18) hm rfl (k := ?_)
        exact ih (d - 5) (by omega) (i9 + 5) _ _ (by omega) IC3 IM3 (ok) hx3
      · exact absurd rfl c850
    by_cases s32_23 : w9 = 23
    · refine r_tsw hm rfl 855 (fun q => by omega) (fun q => ⟨823, by rw [s32_23]; rfl, rfl⟩) ?_
      refine r_aload_n hm rfl (k := ?_)
      refine r_aload_n hm rfl (k := ?_)
      refine r_iload_n hm rfl (k := ?_)
      refine r_iconst hm rfl (k := ?_)
      refine r_iadd hm rfl (hr := (by omega)) (k := ?_)
      refine r_iald (hm := hm) (hf := rfl) (hs := (by first | exact (g1.1 _).trans rfl)) (kk := i9 + 1) (hi := by omega) (hn := (by omega)) (hv := (by first | exact hxs _ | exact hx2 _)) (k := ?_)
      refine r_aload_n hm rfl (k := ?_)
      refine r_iload_n hm rfl (k := ?_)
      refine r_iconst hm rfl (k := ?_)
      refine r_iadd hm rfl (hr := (by omega)) (k := ?_)
      refine r_iald (hm := hm) (hf := rfl) (hs := (by first | exact (g1.1 _).trans rfl)) (kk := i9 + 2) (hi := by omega) (hn := (by omega)) (hv := (by first | exact hxs _ | exact hx2 _)) (k := ?_)
      refine r_i2l hm rfl (k := ?_)
      refine r_bipush hm rfl (k := ?_)
      refine r_lshl hm rfl (k := ?_)
      refine r_aload_n hm rfl (k := ?_)
      refine r_iload_n hm rfl (k := ?_)
      refine r_iconst hm rfl (k := ?_)
      refine r_iadd hm rfl (hr := (by omega)) (k := ?_)
      refine r_iald (hm := hm) (hf := rfl) (hs := (by first | exact (g1.1 _).trans rfl)) (kk := i9 + 3) (hi := by omega) (hn := (by omega)) (hv := (by first | exact hxs _ | exact hx2 _)) (k := ?_)
      refine r_i2l hm rfl (k := ?_)
      refine r_ldc2 hm rfl (hd := rfl) (k := ?_)
      refine r_land hm rfl (k := ?_)
      refine r_lor hm rfl (k := ?_)
      refine r_callv (j2 := 131) hm rfl rfl rfl rfl rfl rfl (by first | exact (g1.1 _).trans rfl) (Nat.le_of_ble_eq_true rfl) (Nat.le_of_ble_eq_true rfl) rfl ⟨Nat.le_of_ble_eq_true rfl, Nat.le_of_ble_eq_true rfl, Nat.le_of_ble_eq_true rfl, Nat.le_of_ble_eq_true rfl, Nat.le_of_ble_eq_true rfl⟩ rfl (c_feed IC ok) (fun v9 hA p9 => ?_)
      obtain ⟨IC2, fx, e1⟩ := p9
      subst e1
      have IM2 := IM.frC IC2.1 fx
      have hx2 : ∀ k, hA.2.1 0 k = (xs k).toInt := fun k => (fx 0 k (by omega)).trans (hxs k)
      replace g1 := IC2.1
      change RN 0 884 _ _ _ 1099 97602 _
      dsimp only [Option.toList, List.cons_append, List.nil_append]
      refine r_aload_n hm rfl (k := ?_)
      refine r_aload_n hm rfl (k := ?_)
      refine r_iload_n hm rfl (k := ?_)
      refine r_iconst hm rfl (k := ?_)
      refine r_iadd hm rfl (hr := (by omega)) (k := ?_)
      refine r_iald (hm := hm) (hf := rfl) (hs := (by first | exact (g1.1 _).trans rfl)) (kk := i9 + 1) (hi := by omega) (hn := (by omega)) (hv := (by first | exact hxs _ | exact hx2 _)) (k := ?_)
      refine r_aload_n hm rfl (k := ?_)
      refine r_iload_n hm rfl (k := ?_)
      refine r_iconst hm rfl (k := ?_)
      refine r_iadd hm rfl (hr := (by omega)) (k := ?_)
      refine r_iald (hm := hm) (hf := rfl) (hs := (by first | exact (g1.1 _).trans rfl)) (kk := i9 + 2) (hi := by omega) (hn := (by omega)) (hv := (by first | exact hxs _ | exact hx2 _)) (k := ?_)
      refine r_i2l hm rfl (k := ?_)
      refine r_bipush hm rfl (k := ?_)
      refine r_lshl hm rfl (k := ?_)
      refine r_aload_n hm rfl (k := ?_)
      refine r_iload_n hm rfl (k := ?_)
      refine r_iconst hm rfl (k := ?_)
      refine r_iadd hm rfl (hr := (by omega)) (k := ?_)
      refine r_iald (hm := hm) (hf := rfl) (hs := (by first | exact (g1.1 _).trans rfl)) (kk := i9 + 3) (hi := by omega) (hn := (by omega)) (hv := (by first | exact hxs _ | exact hx2 _)) (k := ?_)
      refine r_i2l hm rfl (k := ?_)
      refine r_ldc2 hm rfl (hd := rfl) (k := ?_)
      refine r_land hm rfl (k := ?_)
      refine r_lor hm rfl (k := ?_)
      refine r_callv (j2 := 226) hm rfl rfl rfl rfl rfl rfl (by first | exact (g1.1 _).trans rfl) (Nat.le_of_ble_eq_true rfl) (Nat.le_of_ble_eq_true rfl) rfl ⟨Nat.le_of_ble_eq_true rfl, Nat.le_of_ble_eq_true rfl, Nat.le_of_ble_eq_true rfl, Nat.le_of_ble_eq_true rfl, Nat.le_of_ble_eq_true rfl⟩ rfl (m_feed IM2 ok (hI _)) (fun v9 hB_ p9 => ?_)
      obtain ⟨IM3, fm, e1⟩ := p9
      subst e1
      have fr : FxR hA hB_ := FxR.of fm
      have IC3 := IC2.frR fr
      have hx3 : ∀ k, hB_.2.1 0 k = (xs k).toInt := fun k => (fr.2.2 0 k (fun z => by have z2 : 1085 ≤ 0 := z; omega)).trans (hx2 k)
      change RN 0 913 _ _ _ 1099 97602 _
      dsimp only [Option.toList, List.cons_append, List.nil_append]
      refine r_icmp_eq (t := 967) hm rfl rfl (fun c913 => ?_) (fun c913 => ?_)
      · refine r_iinc hm rfl (hr := (by omega)) (k := ?_)
        refine r_goto (t := 18) hm rfl (k := ?_)
        exact ih (d - 5) (by omega) (i9 + 5) _ _ (by omega) IC3 IM3 (oFeed_ok ok) hx3
      · exact absurd rfl c913
    by_cases s32_24 : w9 = 24
    · refine r_tsw hm rfl 918 (fun q => by omega) (fun q => ⟨886, by rw [s32_24]; rfl, rfl⟩) ?_
      refine r_aload_n hm rfl (k := ?_)
      refine r_callv (j2 := 133) hm rfl rfl rfl rfl rfl rfl (by first | exact (g1.1 _).trans rfl) (Nat.le_of_ble_eq_true rfl) (Nat.le_of_ble_eq_true rfl) rfl ⟨Nat.le_of_ble_eq_true rfl, Nat.le_of_ble_eq_true rfl, Nat.le_of_ble_eq_true rfl, Nat.le_of_ble_eq_true rfl, Nat.le_of_ble_eq_true rfl⟩ rfl (c_read IC ok) (fun v9 hA p9 => ?_)
      obtain ⟨IC2, fx, e1⟩ := p9
      subst e1
      have IM2 := IM.frC IC2.1 fx
      have hx2 : ∀ k, hA.2.1 0 k = (xs k).toInt := fun k => (fx 0 k (by omega)).trans (hxs k)
      replace g1 := IC2.1
      change RN 0 922 _ _ _ 1099 97602 _
      dsimp only [Option.toList, List.cons_append, List.nil_append]
      refine r_aload_n hm rfl (k := ?_)
      refine r_callv (j2 := 227) hm rfl rfl rfl rfl rfl rfl (by first | exact (g1.1 _).trans rfl) (Nat.le_of_ble_eq_true rfl) (Nat.le_of_ble_eq_true rfl) rfl ⟨Nat.le_of_ble_eq_true rfl, Nat.le_of_ble_eq_true rfl, Nat.le_of_ble_eq_true rfl, Nat.le_of_ble_eq_true rfl, Nat.le_of_ble_eq_true rfl⟩ rfl (m_read IM2 ok) (fun v9 hB_ p9 => ?_)
      obtain ⟨IM3, fm, e1⟩ := p9
      subst e1
      have fr : FxR hA hB_ := fm
      have IC3 := IC2.frR fr
      have hx3 : ∀ k, hB_.2.1 0 k = (xs k).toInt := fun k => (fr.2.2 0 k (fun z => by have z2 : 1085 ≤ 0 := z; omega)).trans (hx2 k)
      change RN 0 926 _ _ _ 1099 97602 _
      dsimp only [Option.toList, List.cons_append, List.nil_append]
      refine r_icmp_eq (t := 967) hm rfl rfl (fun c926 => ?_) (fun c926 => ?_)
      · refine r_iinc hm rfl (hr := (by omega)) (k := ?_)
        refine r_goto (t := 18) hm rfl (k := ?_)
        exact ih (d - 5) (by omega) (i9 + 5) _ _ (by omega) IC3 IM3 (oRead_ok ok) hx3
      · exact absurd rfl c926
    by_cases s32_25 : w9 = 25
    · refine r_tsw hm rfl 931 (fun q => by omega) (fun q => ⟨899, by rw [s32_25]; rfl, rfl⟩) ?_
      refine r_aload_n hm rfl (k := ?_)
      refine r_callv (j2 := 157) hm rfl rfl rfl rfl rfl rfl (by first | exact (g1.1 _).trans rfl) (Nat.le_of_ble_eq_true rfl) (Nat.le_of_ble_eq_true rfl) rfl ⟨Nat.le_of_ble_eq_true rfl, Nat.le_of_ble_eq_true rfl, Nat.le_of_ble_eq_true rfl, Nat.le_of_ble_eq_true rfl, Nat.le_of_ble_eq_true rfl⟩ rfl (c_fault IC ok) (fun v9 hA p9 => ?_)
      obtain ⟨IC2, fx, e1⟩ := p9
      subst e1
      have IM2 := IM.frC IC2.1 fx
      have hx2 : ∀ k, hA.2.1 0 k = (xs k).toInt := fun k => (fx 0 k (by omega)).trans (hxs k)
      replace g1 := IC2.1
      change RN 0 935 _ _ _ 1099 97602 _
      dsimp only [Option.toList, List.cons_append, List.nil_append]
      refine r_aload_n hm rfl (k := ?_)
      refine r_callv (j2 := 239) hm rfl rfl rfl rfl rfl rfl (by first | exact (g1.1 _).trans rfl) (Nat.le_of_ble_eq_true rfl) (Nat.le_of_ble_eq_true rfl) rfl ⟨Nat.le_of_ble_eq_true rfl, Nat.le_of_ble_eq_true rfl, Nat.le_of_ble_eq_true rfl, Nat.le_of_ble_eq_true rfl, Nat.le_of_ble_eq_true rfl⟩ rfl (m_fault IM2 ok) (fun v9 hB_ p9 => ?_)
      obtain ⟨IM3, fm, e1⟩ := p9
      subst e1
      have fr : FxR hA hB_ := FxR.of fm
      have IC3 := IC2.frR fr
      have hx3 : ∀ k, hB_.2.1 0 k = (xs k).toInt := fun k => (fr.2.2 0 k (fun z => by have z2 : 1085 ≤ 0 := z; omega)).trans (hx2 k)
      change RN 0 939 _ _ _ 1099 97602 _
      dsimp only [Option.toList, List.cons_append, List.nil_append]
      refine r_icmp_eq (t := 967) hm rfl rfl (fun c939 => ?_) (fun c939 => ?_)
      · refine r_iinc hm rfl (hr := (by omega)) (k := ?_)
        refine r_goto (t := 18) hm rfl (k := ?_)
        exact ih (d - 5) (by omega) (i9 + 5) _ _ (by omega) IC3 IM3 (ok) hx3
      · exact absurd rfl c939
    by_cases s32_26 : w9 = 26
    · refine r_tsw hm rfl 944 (fun q => by omega) (fun q => ⟨912, by rw [s32_26]; rfl, rfl⟩) ?_
      refine r_aload_n hm rfl (k := ?_)
      refine r_aload_n hm rfl (k := ?_)
      refine r_iload_n hm rfl (k := ?_)
      refine r_iconst hm rfl (k := ?_)
      refine r_iadd hm rfl (hr := (by omega)) (k := ?_)
      refine r_iald (hm := hm) (hf := rfl) (hs := (by first | exact (g1.1 _).trans rfl)) (kk := i9 + 1) (hi := by omega) (hn := (by omega)) (hv := (by first | exact hxs _ | exact hx2 _)) (k := ?_)
      refine r_callv (j2 := 158) hm rfl rfl rfl rfl rfl rfl (by first | exact (g1.1 _).trans rfl) (Nat.le_of_ble_eq_true rfl) (Nat.le_of_ble_eq_true rfl) rfl ⟨Nat.le_of_ble_eq_true rfl, Nat.le_of_ble_eq_true rfl, Nat.le_of_ble_eq_true rfl, Nat.le_of_ble_eq_true rfl, Nat.le_of_ble_eq_true rfl⟩ rfl (c_style IC ok) (fun v9 hA p9 => ?_)
      obtain ⟨IC2, fx, e1⟩ := p9
      subst e1
      have IM2 := IM.frC IC2.1 fx
      have hx2 : ∀ k, hA.2.1 0 k = (xs k).toInt := fun k => (fx 0 k (by omega)).trans (hxs k)
      replace g1 := IC2.1
      change RN 0 953 _ _ _ 1099 97602 _
      dsimp only [Option.toList, List.cons_append, List.nil_append]
      refine r_aload_n hm rfl (k := ?_)
      refine r_aload_n hm rfl (k := ?_)
      refine r_iload_n hm rfl (k := ?_)
      refine r_iconst hm rfl (k := ?_)
      refine r_iadd hm rfl (hr := (by omega)) (k := ?_)
      refine r_iald (hm := hm) (hf := rfl) (hs := (by first | exact (g1.1 _).trans rfl)) (kk := i9 + 1) (hi := by omega) (hn := (by omega)) (hv := (by first | exact hxs _ | exact hx2 _)) (k := ?_)
      refine r_callv (j2 := 240) hm rfl rfl rfl rfl rfl rfl (by first | exact (g1.1 _).trans rfl) (Nat.le_of_ble_eq_true rfl) (Nat.le_of_ble_eq_true rfl) rfl ⟨Nat.le_of_ble_eq_true rfl, Nat.le_of_ble_eq_true rfl, Nat.le_of_ble_eq_true rfl, Nat.le_of_ble_eq_true rfl, Nat.le_of_ble_eq_true rfl⟩ rfl (m_style IM2 ok (hI _)) (fun v9 hB_ p9 => ?_)
      obtain ⟨IM3, fm, e1⟩ := p9
      subst e1
      have fr : FxR hA hB_ := FxR.of fm
      have IC3 := IC2.frR fr
      have hx3 : ∀ k, hB_.2.1 0 k = (xs k).toInt := fun k => (fr.2.2 0 k (fun z => by have z2 : 1085 ≤ 0 := z; omega)).trans (hx2 k)
      change RN 0 962 _ _ _ 1099 97602 _
      dsimp only [Option.toList, List.cons_append, List.nil_append]
      refine r_icmp_eq (t := 967) hm rfl rfl (fun c962 => ?_) (fun c962 => ?_)
      · refine r_iinc hm rfl (hr := (by omega)) (k := ?_)
        refine r_goto (t := 18) hm rfl (k := ?_)
        exact ih (d - 5) (by omega) (i9 + 5) _ _ (by omega) IC3 IM3 (ok) hx3
      · exact absurd rfl c962
    refine r_tsw hm rfl 967 (fun q => rfl) (fun q => by exfalso; omega) ?_
    refine r_iinc hm rfl (hr := (by omega)) (k := ?_)
    refine r_goto (t := 18) hm rfl (k := ?_)
    exact ih (d - 5) (by omega) (i9 + 5) S _ (by omega) IC IM ok hxs
