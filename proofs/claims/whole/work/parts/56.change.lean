/-! the class: put, cut, move, mark, piece, drop -/
theorem c_hasMeasure {h : Hp} {kd : Int} : RN 17 0 [some (.inl kd)] [] h 0 0 (fun v h2 => h2 = h ∧ v = some (.inl (if kd = 0 ∨ kd = 4 ∨ kd = 2 ∨ kd = 3 then 1 else 0))) := by
  have hm : mrec 17 = some nM17 := rfl
  refine r_iload_n hm rfl (k := ?_)
  refine r_if_eq (t := 19) hm rfl rfl (fun c1 => ?_) (fun c1 => ?_)
  · refine r_iconst hm rfl (k := ?_)
    refine r_goto (t := 24) hm rfl (k := ?_)
    refine r_ireturn hm rfl rfl (by first | rfl | decide) (Nat.le_of_ble_eq_true rfl) (Nat.le_of_ble_eq_true rfl) ?_
    exact ⟨rfl, by first | (rw [if_pos (by omega)]; done) | (rw [if_neg (by omega)]; done)⟩
  · refine r_iload_n hm rfl (k := ?_)
    refine r_iconst hm rfl (k := ?_)
    refine r_icmp_eq (t := 19) hm rfl rfl (fun c6 => ?_) (fun c6 => ?_)
    · refine r_iconst hm rfl (k := ?_)
      refine r_goto (t := 24) hm rfl (k := ?_)
      refine r_ireturn hm rfl rfl (by first | rfl | decide) (Nat.le_of_ble_eq_true rfl) (Nat.le_of_ble_eq_true rfl) ?_
      exact ⟨rfl, by first | (rw [if_pos (by omega)]; done) | (rw [if_neg (by omega)]; done)⟩
    · refine r_iload_n hm rfl (k := ?_)
      refine r_iconst hm rfl (k := ?_)
      refine r_icmp_eq (t := 19) hm rfl rfl (fun c11 => ?_) (fun c11 => ?_)
      · refine r_iconst hm rfl (k := ?_)
        refine r_goto (t := 24) hm rfl (k := ?_)
        refine r_ireturn hm rfl rfl (by first | rfl | decide) (Nat.le_of_ble_eq_true rfl) (Nat.le_of_ble_eq_true rfl) ?_
        exact ⟨rfl, by first | (rw [if_pos (by omega)]; done) | (rw [if_neg (by omega)]; done)⟩
      · refine r_iload_n hm rfl (k := ?_)
        refine r_iconst hm rfl (k := ?_)
        refine r_icmp_ne (t := 23) hm rfl rfl (fun c16 => ?_) (fun c16 => ?_)
        · refine r_iconst hm rfl (k := ?_)
          refine r_ireturn hm rfl rfl (by first | rfl | decide) (Nat.le_of_ble_eq_true rfl) (Nat.le_of_ble_eq_true rfl) ?_
          exact ⟨rfl, by first | (rw [if_pos (by omega)]; done) | (rw [if_neg (by omega)]; done)⟩
        · refine r_iconst hm rfl (k := ?_)
          refine r_goto (t := 24) hm rfl (k := ?_)
          refine r_ireturn hm rfl rfl (by first | rfl | decide) (Nat.le_of_ble_eq_true rfl) (Nat.le_of_ble_eq_true rfl) ?_
          exact ⟨rfl, by first | (rw [if_pos (by omega)]; done) | (rw [if_neg (by omega)]; done)⟩
theorem c_isMeasure {h : Hp} {kd a : Int} : RN 16 0 [some (.inl kd), some (.inl a)] [] h 0 0 (fun v h2 => h2 = h ∧ v = some (.inl (if ((kd = 0 ∨ kd = 4) → 1 ≤ a ∧ a ≤ 4) ∧ ((kd = 2 ∨ kd = 3) → 1 ≤ a ∧ a ≤ 8) then 1 else 0))) := by
  have hm : mrec 16 = some nM16 := rfl
  refine r_iload_n hm rfl (k := ?_)
  refine r_if_eq (t := 9) hm rfl rfl (fun c1 => ?_) (fun c1 => ?_)
  · refine r_iload_n hm rfl (k := ?_)
    refine r_iconst hm rfl (k := ?_)
    refine r_icmp_lt (t := 23) hm rfl rfl (fun c11 => ?_) (fun c11 => ?_)
    · refine r_iconst hm rfl (k := ?_)
      refine r_ireturn hm rfl rfl (by first | rfl | decide) (Nat.le_of_ble_eq_true rfl) (Nat.le_of_ble_eq_true rfl) ?_
      exact ⟨rfl, by first | (rw [if_pos (by omega)]; done) | (rw [if_neg (by omega)]; done)⟩
    · refine r_iload_n hm rfl (k := ?_)
      refine r_iconst hm rfl (k := ?_)
      refine r_icmp_gt (t := 23) hm rfl rfl (fun c16 => ?_) (fun c16 => ?_)
      · refine r_iconst hm rfl (k := ?_)
        refine r_ireturn hm rfl rfl (by first | rfl | decide) (Nat.le_of_ble_eq_true rfl) (Nat.le_of_ble_eq_true rfl) ?_
        exact ⟨rfl, by first | (rw [if_pos (by omega)]; done) | (rw [if_neg (by omega)]; done)⟩
      · refine r_iconst hm rfl (k := ?_)
        refine r_goto (t := 24) hm rfl (k := ?_)
        refine r_ireturn hm rfl rfl (by first | rfl | decide) (Nat.le_of_ble_eq_true rfl) (Nat.le_of_ble_eq_true rfl) ?_
        exact ⟨rfl, by first | (rw [if_pos (by omega)]; done) | (rw [if_neg (by omega)]; done)⟩
  · refine r_iload_n hm rfl (k := ?_)
    refine r_iconst hm rfl (k := ?_)
    refine r_icmp_ne (t := 25) hm rfl rfl (fun c6 => ?_) (fun c6 => ?_)
    · refine r_iload_n hm rfl (k := ?_)
      refine r_calls (j2 := 17) hm rfl rfl rfl rfl rfl rfl (Nat.le_of_ble_eq_true rfl) (Nat.le_of_ble_eq_true rfl) rfl ⟨Nat.le_of_ble_eq_true rfl, Nat.le_of_ble_eq_true rfl, Nat.le_of_ble_eq_true rfl, Nat.le_of_ble_eq_true rfl, Nat.le_of_ble_eq_true rfl⟩ rfl (c_hasMeasure) (fun v9 h9 p9 => ?_)
      obtain ⟨e1, e2⟩ := p9
      subst e2
      replace e1 := e1.symm
      subst e1
      obtain ⟨b9, eb9, hb9⟩ := ite01 (p := kd = 0 ∨ kd = 4 ∨ kd = 2 ∨ kd = 3)
      rw [eb9]
      change RN 16 29 _ _ _ 0 0 _
      dsimp only [Option.toList, List.cons_append, List.nil_append]
      refine r_if_eq (t := 43) hm rfl rfl (fun c29 => ?_) (fun c29 => ?_)
      · refine r_iconst hm rfl (k := ?_)
        refine r_goto (t := 48) hm rfl (k := ?_)
        refine r_ireturn hm rfl rfl (by first | rfl | decide) (Nat.le_of_ble_eq_true rfl) (Nat.le_of_ble_eq_true rfl) ?_
        exact ⟨rfl, by first | (rw [if_pos (by omega)]; done) | (rw [if_neg (by omega)]; done)⟩
      · refine r_iload_n hm rfl (k := ?_)
        refine r_iconst hm rfl (k := ?_)
        refine r_icmp_lt (t := 47) hm rfl rfl (fun c34 => ?_) (fun c34 => ?_)
        · refine r_iconst hm rfl (k := ?_)
          refine r_ireturn hm rfl rfl (by first | rfl | decide) (Nat.le_of_ble_eq_true rfl) (Nat.le_of_ble_eq_true rfl) ?_
          exact ⟨rfl, by first | (rw [if_pos (by omega)]; done) | (rw [if_neg (by omega)]; done)⟩
        · refine r_iload_n hm rfl (k := ?_)
          refine r_bipush hm rfl (k := ?_)
          refine r_icmp_gt (t := 47) hm rfl rfl (fun c40 => ?_) (fun c40 => ?_)
          · refine r_iconst hm rfl (k := ?_)
            refine r_ireturn hm rfl rfl (by first | rfl | decide) (Nat.le_of_ble_eq_true rfl) (Nat.le_of_ble_eq_true rfl) ?_
            exact ⟨rfl, by first | (rw [if_pos (by omega)]; done) | (rw [if_neg (by omega)]; done)⟩
          · refine r_iconst hm rfl (k := ?_)
            refine r_goto (t := 48) hm rfl (k := ?_)
            refine r_ireturn hm rfl rfl (by first | rfl | decide) (Nat.le_of_ble_eq_true rfl) (Nat.le_of_ble_eq_true rfl) ?_
            exact ⟨rfl, by first | (rw [if_pos (by omega)]; done) | (rw [if_neg (by omega)]; done)⟩
    · refine r_iload_n hm rfl (k := ?_)
      refine r_iconst hm rfl (k := ?_)
      refine r_icmp_lt (t := 23) hm rfl rfl (fun c11 => ?_) (fun c11 => ?_)
      · refine r_iconst hm rfl (k := ?_)
        refine r_ireturn hm rfl rfl (by first | rfl | decide) (Nat.le_of_ble_eq_true rfl) (Nat.le_of_ble_eq_true rfl) ?_
        exact ⟨rfl, by first | (rw [if_pos (by omega)]; done) | (rw [if_neg (by omega)]; done)⟩
      · refine r_iload_n hm rfl (k := ?_)
        refine r_iconst hm rfl (k := ?_)
        refine r_icmp_gt (t := 23) hm rfl rfl (fun c16 => ?_) (fun c16 => ?_)
        · refine r_iconst hm rfl (k := ?_)
          refine r_ireturn hm rfl rfl (by first | rfl | decide) (Nat.le_of_ble_eq_true rfl) (Nat.le_of_ble_eq_true rfl) ?_
          exact ⟨rfl, by first | (rw [if_pos (by omega)]; done) | (rw [if_neg (by omega)]; done)⟩
        · refine r_iconst hm rfl (k := ?_)
          refine r_goto (t := 24) hm rfl (k := ?_)
          refine r_ireturn hm rfl rfl (by first | rfl | decide) (Nat.le_of_ble_eq_true rfl) (Nat.le_of_ble_eq_true rfl) ?_
          exact ⟨rfl, by first | (rw [if_pos (by omega)]; done) | (rw [if_neg (by omega)]; done)⟩
theorem c_isPiece {h : Hp} {kd a b : Int} : RN 28 0 [some (.inl kd), some (.inl a), some (.inl b)] [] h 0 0 (fun v h2 => h2 = h ∧ v = some (.inl (if (kd = 0 ∧ 1 ≤ a ∧ a ≤ 20) ∨ (kd = 1 ∧ 0 ≤ a ∧ a ≤ 99 ∧ 0 ≤ b ∧ b ≤ 2) ∨ (kd = 2 ∧ 1 ≤ a ∧ a ≤ 5) then 1 else 0))) := by
  have hm : mrec 28 = some nM28 := rfl
  refine r_iload_n hm rfl (k := ?_)
  by_cases s1_0 : kd = 0
  · refine r_tsw hm rfl 28 (fun q => by omega) (fun q => ⟨27, by rw [s1_0]; rfl, rfl⟩) ?_
    refine r_iload_n hm rfl (k := ?_)
    refine r_iconst hm rfl (k := ?_)
    refine r_icmp_lt (t := 43) hm rfl rfl (fun c30 => ?_) (fun c30 => ?_)
    · refine r_iconst hm rfl (k := ?_)
      refine r_ireturn hm rfl rfl (by first | rfl | decide) (Nat.le_of_ble_eq_true rfl) (Nat.le_of_ble_eq_true rfl) ?_
      exact ⟨rfl, by first | (rw [if_pos (by omega)]; done) | (rw [if_neg (by omega)]; done)⟩
    · refine r_iload_n hm rfl (k := ?_)
      refine r_bipush hm rfl (k := ?_)
      refine r_icmp_gt (t := 43) hm rfl rfl (fun c36 => ?_) (fun c36 => ?_)
      · refine r_iconst hm rfl (k := ?_)
        refine r_ireturn hm rfl rfl (by first | rfl | decide) (Nat.le_of_ble_eq_true rfl) (Nat.le_of_ble_eq_true rfl) ?_
        exact ⟨rfl, by first | (rw [if_pos (by omega)]; done) | (rw [if_neg (by omega)]; done)⟩
      · refine r_iconst hm rfl (k := ?_)
        refine r_goto (t := 44) hm rfl (k := ?_)
        refine r_ireturn hm rfl rfl (by first | rfl | decide) (Nat.le_of_ble_eq_true rfl) (Nat.le_of_ble_eq_true rfl) ?_
        exact ⟨rfl, by first | (rw [if_pos (by omega)]; done) | (rw [if_neg (by omega)]; done)⟩
  by_cases s1_1 : kd = 1
  · refine r_tsw hm rfl 45 (fun q => by omega) (fun q => ⟨44, by rw [s1_1]; rfl, rfl⟩) ?_
    refine r_iload_n hm rfl (k := ?_)
    refine r_calls (j2 := 26) hm rfl rfl rfl rfl rfl rfl (Nat.le_of_ble_eq_true rfl) (Nat.le_of_ble_eq_true rfl) rfl ⟨Nat.le_of_ble_eq_true rfl, Nat.le_of_ble_eq_true rfl, Nat.le_of_ble_eq_true rfl, Nat.le_of_ble_eq_true rfl, Nat.le_of_ble_eq_true rfl⟩ rfl (c_isMark) (fun v9 h9 p9 => ?_)
    obtain ⟨e1, e2⟩ := p9
    subst e2
    replace e1 := e1.symm
    subst e1
    obtain ⟨b9, eb9, hb9⟩ := ite01 (p := 0 ≤ a ∧ a ≤ 99)
    rw [eb9]
    change RN 28 49 _ _ _ 0 0 _
    dsimp only [Option.toList, List.cons_append, List.nil_append]
    refine r_if_eq (t := 65) hm rfl rfl (fun c49 => ?_) (fun c49 => ?_)
    · refine r_iconst hm rfl (k := ?_)
      refine r_ireturn hm rfl rfl (by first | rfl | decide) (Nat.le_of_ble_eq_true rfl) (Nat.le_of_ble_eq_true rfl) ?_
      exact ⟨rfl, by first | (rw [if_pos (by omega)]; done) | (rw [if_neg (by omega)]; done)⟩
    · refine r_iload_n hm rfl (k := ?_)
      refine r_if_lt (t := 65) hm rfl rfl (fun c53 => ?_) (fun c53 => ?_)
      · refine r_iconst hm rfl (k := ?_)
        refine r_ireturn hm rfl rfl (by first | rfl | decide) (Nat.le_of_ble_eq_true rfl) (Nat.le_of_ble_eq_true rfl) ?_
        exact ⟨rfl, by first | (rw [if_pos (by omega)]; done) | (rw [if_neg (by omega)]; done)⟩
      · refine r_iload_n hm rfl (k := ?_)
        refine r_iconst hm rfl (k := ?_)
        refine r_icmp_gt (t := 65) hm rfl rfl (fun c58 => ?_) (fun c58 => ?_)
        · refine r_iconst hm rfl (k := ?_)
          refine r_ireturn hm rfl rfl (by first | rfl | decide) (Nat.le_of_ble_eq_true rfl) (Nat.le_of_ble_eq_true rfl) ?_
          exact ⟨rfl, by first | (rw [if_pos (by omega)]; done) | (rw [if_neg (by omega)]; done)⟩
        · refine r_iconst hm rfl (k := ?_)
          refine r_goto (t := 66) hm rfl (k := ?_)
          refine r_ireturn hm rfl rfl (by first | rfl | decide) (Nat.le_of_ble_eq_true rfl) (Nat.le_of_ble_eq_true rfl) ?_
          exact ⟨rfl, by first | (rw [if_pos (by omega)]; done) | (rw [if_neg (by omega)]; done)⟩
  by_cases s1_2 : kd = 2
  · refine r_tsw hm rfl 67 (fun q => by omega) (fun q => ⟨66, by rw [s1_2]; rfl, rfl⟩) ?_
    refine r_iload_n hm rfl (k := ?_)
    refine r_iconst hm rfl (k := ?_)
    refine r_icmp_lt (t := 81) hm rfl rfl (fun c69 => ?_) (fun c69 => ?_)
    · refine r_iconst hm rfl (k := ?_)
      refine r_ireturn hm rfl rfl (by first | rfl | decide) (Nat.le_of_ble_eq_true rfl) (Nat.le_of_ble_eq_true rfl) ?_
      exact ⟨rfl, by first | (rw [if_pos (by omega)]; done) | (rw [if_neg (by omega)]; done)⟩
    · refine r_iload_n hm rfl (k := ?_)
      refine r_iconst hm rfl (k := ?_)
      refine r_icmp_gt (t := 81) hm rfl rfl (fun c74 => ?_) (fun c74 => ?_)
      · refine r_iconst hm rfl (k := ?_)
        refine r_ireturn hm rfl rfl (by first | rfl | decide) (Nat.le_of_ble_eq_true rfl) (Nat.le_of_ble_eq_true rfl) ?_
        exact ⟨rfl, by first | (rw [if_pos (by omega)]; done) | (rw [if_neg (by omega)]; done)⟩
      · refine r_iconst hm rfl (k := ?_)
        refine r_goto (t := 82) hm rfl (k := ?_)
        refine r_ireturn hm rfl rfl (by first | rfl | decide) (Nat.le_of_ble_eq_true rfl) (Nat.le_of_ble_eq_true rfl) ?_
        exact ⟨rfl, by first | (rw [if_pos (by omega)]; done) | (rw [if_neg (by omega)]; done)⟩
  refine r_tsw hm rfl 83 (fun q => rfl) (fun q => by exfalso; omega) ?_
  refine r_iconst hm rfl (k := ?_)
  refine r_ireturn hm rfl rfl (by first | rfl | decide) (Nat.le_of_ble_eq_true rfl) (Nat.le_of_ble_eq_true rfl) ?_
  exact ⟨rfl, by first | (rw [if_pos (by omega)]; done) | (rw [if_neg (by omega)]; done)⟩
theorem c_append {h : Hp} {it n : Nat} {a b c : Int} (g0 : h.1[it]? = some (3, 8)) (g1 : h.1[it + 1]? = some (100, 20)) (g2 : h.1[it + 2]? = some (100, 20)) (g3 : h.1[it + 3]? = some (100, 20)) (r0 : h.2.2.1 it 0 = some (it + 1)) (r1 : h.2.2.1 it 1 = some (it + 2)) (r2 : h.2.2.1 it 2 = some (it + 3)) (e7 : h.2.1 it 7 = (n : Int)) (hn : n < 20) (h28 : 28 ≤ it) : RN 29 0 [some (.inr (.inr (some (it)))), some (.inl a), some (.inl b), some (.inl c)] [] h 0 0 (fun v h2 => h2 = putI (putI (putI (putI h (it + 1) n a) (it + 2) n b) (it + 3) n c) it 7 ((n : Int) + 1) ∧ v = none) := by
  have hm : mrec 29 = some nM29 := rfl
  refine r_aload_n hm rfl (k := ?_)
  refine r_getI (hm := hm) (hf := rfl) (hd := rfl) (hs := (by first | exact g0 | exact g1 | exact g2 | exact g3)) (hv := (by first | exact putI_eq | exact (putI_ne (by omega)).trans (by first | exact putI_eq | exact (putI_ne (by omega)).trans (by first | exact putI_eq | exact (putI_ne (by omega)).trans (by first | exact putI_eq | exact (putI_ne (by omega)).trans (by first | first | exact e7 | exact r0 | exact r1 | exact r2) | first | exact e7 | exact r0 | exact r1 | exact r2) | first | exact e7 | exact r0 | exact r1 | exact r2) | first | exact e7 | exact r0 | exact r1 | exact r2) | first | exact e7 | exact r0 | exact r1 | exact r2)) (k := ?_)
  refine r_bipush hm rfl (k := ?_)
  refine r_icmp_ge (t := 49) hm rfl rfl (fun c6 => ?_) (fun c6 => ?_)
  · exfalso; omega
  · refine r_aload_n hm rfl (k := ?_)
    refine r_getR (hm := hm) (hf := rfl) (hd := rfl) (hs := (by first | exact g0 | exact g1 | exact g2 | exact g3)) (hv := (by first | exact putI_eq | exact (putI_ne (by omega)).trans (by first | exact putI_eq | exact (putI_ne (by omega)).trans (by first | exact putI_eq | exact (putI_ne (by omega)).trans (by first | exact putI_eq | exact (putI_ne (by omega)).trans (by first | first | exact e7 | exact r0 | exact r1 | exact r2) | first | exact e7 | exact r0 | exact r1 | exact r2) | first | exact e7 | exact r0 | exact r1 | exact r2) | first | exact e7 | exact r0 | exact r1 | exact r2) | first | exact e7 | exact r0 | exact r1 | exact r2)) (k := ?_)
    refine r_aload_n hm rfl (k := ?_)
    refine r_getI (hm := hm) (hf := rfl) (hd := rfl) (hs := (by first | exact g0 | exact g1 | exact g2 | exact g3)) (hv := (by first | exact putI_eq | exact (putI_ne (by omega)).trans (by first | exact putI_eq | exact (putI_ne (by omega)).trans (by first | exact putI_eq | exact (putI_ne (by omega)).trans (by first | exact putI_eq | exact (putI_ne (by omega)).trans (by first | first | exact e7 | exact r0 | exact r1 | exact r2) | first | exact e7 | exact r0 | exact r1 | exact r2) | first | exact e7 | exact r0 | exact r1 | exact r2) | first | exact e7 | exact r0 | exact r1 | exact r2) | first | exact e7 | exact r0 | exact r1 | exact r2)) (k := ?_)
    refine r_iload_n hm rfl (k := ?_)
    refine r_iast (hm := hm) (hf := rfl) (h28 := (by omega)) (hs := (by first | exact g0 | exact g1 | exact g2 | exact g3)) (hi := rfl) (hn := (by omega)) (k := ?_)
    refine r_aload_n hm rfl (k := ?_)
    refine r_getR (hm := hm) (hf := rfl) (hd := rfl) (hs := (by first | exact g0 | exact g1 | exact g2 | exact g3)) (hv := (by first | exact putI_eq | exact (putI_ne (by omega)).trans (by first | exact putI_eq | exact (putI_ne (by omega)).trans (by first | exact putI_eq | exact (putI_ne (by omega)).trans (by first | exact putI_eq | exact (putI_ne (by omega)).trans (by first | first | exact e7 | exact r0 | exact r1 | exact r2) | first | exact e7 | exact r0 | exact r1 | exact r2) | first | exact e7 | exact r0 | exact r1 | exact r2) | first | exact e7 | exact r0 | exact r1 | exact r2) | first | exact e7 | exact r0 | exact r1 | exact r2)) (k := ?_)
    refine r_aload_n hm rfl (k := ?_)
    refine r_getI (hm := hm) (hf := rfl) (hd := rfl) (hs := (by first | exact g0 | exact g1 | exact g2 | exact g3)) (hv := (by first | exact putI_eq | exact (putI_ne (by omega)).trans (by first | exact putI_eq | exact (putI_ne (by omega)).trans (by first | exact putI_eq | exact (putI_ne (by omega)).trans (by first | exact putI_eq | exact (putI_ne (by omega)).trans (by first | first | exact e7 | exact r0 | exact r1 | exact r2) | first | exact e7 | exact r0 | exact r1 | exact r2) | first | exact e7 | exact r0 | exact r1 | exact r2) | first | exact e7 | exact r0 | exact r1 | exact r2) | first | exact e7 | exact r0 | exact r1 | exact r2)) (k := ?_)
    refine r_iload_n hm rfl (k := ?_)
    refine r_iast (hm := hm) (hf := rfl) (h28 := (by omega)) (hs := (by first | exact g0 | exact g1 | exact g2 | exact g3)) (hi := rfl) (hn := (by omega)) (k := ?_)
    refine r_aload_n hm rfl (k := ?_)
    refine r_getR (hm := hm) (hf := rfl) (hd := rfl) (hs := (by first | exact g0 | exact g1 | exact g2 | exact g3)) (hv := (by first | exact putI_eq | exact (putI_ne (by omega)).trans (by first | exact putI_eq | exact (putI_ne (by omega)).trans (by first | exact putI_eq | exact (putI_ne (by omega)).trans (by first | exact putI_eq | exact (putI_ne (by omega)).trans (by first | first | exact e7 | exact r0 | exact r1 | exact r2) | first | exact e7 | exact r0 | exact r1 | exact r2) | first | exact e7 | exact r0 | exact r1 | exact r2) | first | exact e7 | exact r0 | exact r1 | exact r2) | first | exact e7 | exact r0 | exact r1 | exact r2)) (k := ?_)
    refine r_aload_n hm rfl (k := ?_)
    refine r_getI (hm := hm) (hf := rfl) (hd := rfl) (hs := (by first | exact g0 | exact g1 | exact g2 | exact g3)) (hv := (by first | exact putI_eq | exact (putI_ne (by omega)).trans (by first | exact putI_eq | exact (putI_ne (by omega)).trans (by first | exact putI_eq | exact (putI_ne (by omega)).trans (by first | exact putI_eq | exact (putI_ne (by omega)).trans (by first | first | exact e7 | exact r0 | exact r1 | exact r2) | first | exact e7 | exact r0 | exact r1 | exact r2) | first | exact e7 | exact r0 | exact r1 | exact r2) | first | exact e7 | exact r0 | exact r1 | exact r2) | first | exact e7 | exact r0 | exact r1 | exact r2)) (k := ?_)
    refine r_iload_n hm rfl (k := ?_)
    refine r_iast (hm := hm) (hf := rfl) (h28 := (by omega)) (hs := (by first | exact g0 | exact g1 | exact g2 | exact g3)) (hi := rfl) (hn := (by omega)) (k := ?_)
    refine r_aload_n hm rfl (k := ?_)
    refine r_dup hm rfl (k := ?_)
    refine r_getI (hm := hm) (hf := rfl) (hd := rfl) (hs := (by first | exact g0 | exact g1 | exact g2 | exact g3)) (hv := (by first | exact putI_eq | exact (putI_ne (by omega)).trans (by first | exact putI_eq | exact (putI_ne (by omega)).trans (by first | exact putI_eq | exact (putI_ne (by omega)).trans (by first | exact putI_eq | exact (putI_ne (by omega)).trans (by first | first | exact e7 | exact r0 | exact r1 | exact r2) | first | exact e7 | exact r0 | exact r1 | exact r2) | first | exact e7 | exact r0 | exact r1 | exact r2) | first | exact e7 | exact r0 | exact r1 | exact r2) | first | exact e7 | exact r0 | exact r1 | exact r2)) (k := ?_)
    refine r_iconst hm rfl (k := ?_)
    refine r_iadd hm rfl (hr := (by omega)) (k := ?_)
    refine r_putI (hm := hm) (hf := rfl) (hd := rfl) (hs := (by first | exact g0 | exact g1 | exact g2 | exact g3)) (hfin := Or.inl rfl) (hz := fun q9 => absurd q9 (by decide)) (k := ?_)
    refine r_return hm rfl rfl (Nat.le_of_ble_eq_true rfl) (Nat.le_of_ble_eq_true rfl) ?_
    exact ⟨rfl, rfl⟩
theorem RepC_pc {h : Hp} {t : Nat} {x : Tx} {q n it : Nat} {a b c : Int} (R : RepC h t x) (hq : q < x.1) (hn : x.2.1 4 q = (n : Int)) (he : it = itm h t q) : RepC (putI (putI (putI (putI h (it + 1) n a) (it + 2) n b) (it + 3) n c) it 7 ((n : Int) + 1)) t (pcT x q a b c) := by
  subst he
  obtain ⟨R1, RQ⟩ := R
  have RQ : RepQ h t x := RQ
  have n60 := RQ.1
  have rq := itm_rng RQ (i := q) (by omega)
  obtain ⟨R2, R3, R4, R5, R6, R7⟩ := id RQ
  refine ⟨?_, ?_⟩
  · simp (disch := omega) only [putI_fne, putI_feq, upf_ne, upf_eq]; exact R1
  refine RepQ.ch RQ n60 (fun i => rfl) (fun g i hg hi => ?_) (fun g i k hg hi hk => ?_) (fun k hk => ?_)
  · have hi2 : i < x.1 := hi
    show _ = if g = 4 ∧ i = q then x.2.1 4 q + 1 else x.2.1 g i
    by_cases d : i = q
    · subst d
      by_cases c4 : g = 4
      · subst c4
        rw [if_pos ⟨rfl, rfl⟩]
        simp (disch := omega) only [putI_fne, putI_feq, upf_ne, upf_eq]
        rw [hn]
      · rw [if_neg (by omega)]
        simp (disch := omega) only [putI_fne, putI_feq, upf_ne, upf_eq]
        exact R5 g i hg hi2
    · rw [if_neg (by omega)]
      have := itm_sep RQ (i := i) (j := q) (by omega) (by omega) d
      simp (disch := omega) only [putI_fne, putI_feq, upf_ne, upf_eq]
      exact R5 g i hg hi2
  · have hi2 : i < x.1 := hi
    have hk2 : (k : Int) < if 4 = 4 ∧ i = q then x.2.1 4 q + 1 else x.2.1 4 i := hk
    show _ = if i = q ∧ (k : Int) = x.2.1 4 q then (if g = 0 then a else if g = 1 then b else c) else x.2.2.1 g i k
    by_cases d : i = q
    · subst d
      rw [if_pos ⟨rfl, rfl⟩] at hk2
      by_cases ck : (k : Int) = x.2.1 4 i
      · have ck2 : k = n := by omega
        subst ck2
        rw [if_pos ⟨rfl, ck⟩]
        have : g = 0 ∨ g = 1 ∨ g = 2 := by omega
        rcases this with rfl | rfl | rfl <;> simp (disch := omega) only [putI_fne, putI_feq, upf_ne, upf_eq] <;> first | rfl | (simp; done)
      · rw [if_neg (by omega)]
        have : g = 0 ∨ g = 1 ∨ g = 2 := by omega
        have e9 := R6 g i k hg hi2 (by omega)
        rcases this with rfl | rfl | rfl <;> simp (disch := omega) only [putI_fne, putI_feq, upf_ne, upf_eq] <;> exact e9
    · rw [if_neg (by omega)] at hk2
      rw [if_neg (by omega)]
      have := itm_sep RQ (i := i) (j := q) (by omega) (by omega) d
      simp (disch := omega) only [putI_fne, putI_feq, upf_ne, upf_eq]
      exact R6 g i k hg hi2 hk2
  · simp (disch := omega) only [putI_fne, putI_feq, upf_ne, upf_eq]
    exact R7 k hk
set_option maxRecDepth 8000 in
theorem c_put {L : Nat} {h : Hp} {S : St} (I : InvC L h S) (ok : okS S) {i kd a : Int} : RN 15 0 [some (.inr (.inr (some (28)))), some (.inl i), some (.inl kd), some (.inl a), none] [] h 0 0 (fun v h2 => InvC L h2 (oPut S i kd a) ∧ FxC h h2 ∧ v = some (.inl (aPut S i kd a))) := by
  have hm : mrec 15 = some nM15 := rfl
  obtain ⟨g, C, hR, hV, hK, hG, hSt, hL, hB, hFl⟩ := id I
  have hok := ok.1
  have ht : isT 29 := Or.inl rfl
  obtain ⟨T1, T2, T3, T4, T5, T6, T7⟩ := g.tx ht
  obtain ⟨I0, I1, I2, I3, I4, J0, J1, J2, F0, F1, F2, F3, F4, P0, P1, P2⟩ := hR.use g ht
  obtain ⟨R1, R2, R3, R4, R5, R6, R7⟩ := id hR
  have n60 := hok.1
  have g1 := g
  have g200 := ok.2.2.2.1
  refine r_iload_n hm rfl (k := ?_)
  refine r_if_lt (t := 33) hm rfl rfl (fun c1 => ?_) (fun c1 => ?_)
  · refine r_sipush hm rfl (k := ?_)
    refine r_ireturn hm rfl rfl (by rfl) (Nat.le_of_ble_eq_true rfl) (Nat.le_of_ble_eq_true rfl) ?_
    have c9 : ¬ gdPut S i kd a := fun z => by unfold gdPut at z; omega
    unfold oPut aPut
    rw [if_neg (fun z => c9 z.1), if_neg c9]
    exact ⟨I, FxC.refl, rfl⟩
  · refine r_iload_n hm rfl (k := ?_)
    refine r_aload_n hm rfl (k := ?_)
    refine r_getR (hm := hm) (hf := rfl) (hd := rfl) (hs := (by first | assumption | exact (g1.1 _).trans rfl | exact I1 _ (by omega) | exact I2 _ (by omega) | exact I3 _ (by omega) | exact I4 _ (by omega))) (hv := (by first | exact putI_eq | exact (putI_ne (by omega)).trans (by first | exact putI_eq | exact (putI_ne (by omega)).trans (by first | first | assumption | exact g1.2 _ _ _ rfl | exact I0 _ (by omega) | exact J0 _ (by omega) | exact J1 _ (by omega) | exact J2 _ (by omega) | exact F0 _ (by omega) | exact F1 _ (by omega) | exact F2 _ (by omega) | exact F3 _ (by omega) | exact F4 _ (by omega) | exact P0 _ _ (by omega) (by omega) | exact P1 _ _ (by omega) (by omega) | exact P2 _ _ (by omega) (by omega) | exact hGB) | first | assumption | exact g1.2 _ _ _ rfl | exact I0 _ (by omega) | exact J0 _ (by omega) | exact J1 _ (by omega) | exact J2 _ (by omega) | exact F0 _ (by omega) | exact F1 _ (by omega) | exact F2 _ (by omega) | exact F3 _ (by omega) | exact F4 _ (by omega) | exact P0 _ _ (by omega) (by omega) | exact P1 _ _ (by omega) (by omega) | exact P2 _ _ (by omega) (by omega) | exact hGB) | first | assumption | exact g1.2 _ _ _ rfl | exact I0 _ (by omega) | exact J0 _ (by omega) | exact J1 _ (by omega) | exact J2 _ (by omega) | exact F0 _ (by omega) | exact F1 _ (by omega) | exact F2 _ (by omega) | exact F3 _ (by omega) | exact F4 _ (by omega) | exact P0 _ _ (by omega) (by omega) | exact P1 _ _ (by omega) (by omega) | exact P2 _ _ (by omega) (by omega) | exact hGB)) (k := ?_)
    refine r_getI (hm := hm) (hf := rfl) (hd := rfl) (hs := (by first | assumption | exact (g1.1 _).trans rfl | exact I1 _ (by omega) | exact I2 _ (by omega) | exact I3 _ (by omega) | exact I4 _ (by omega))) (hv := (by first | exact putI_eq | exact (putI_ne (by omega)).trans (by first | exact putI_eq | exact (putI_ne (by omega)).trans (by first | first | assumption | exact g1.2 _ _ _ rfl | exact I0 _ (by omega) | exact J0 _ (by omega) | exact J1 _ (by omega) | exact J2 _ (by omega) | exact F0 _ (by omega) | exact F1 _ (by omega) | exact F2 _ (by omega) | exact F3 _ (by omega) | exact F4 _ (by omega) | exact P0 _ _ (by omega) (by omega) | exact P1 _ _ (by omega) (by omega) | exact P2 _ _ (by omega) (by omega) | exact hGB) | first | assumption | exact g1.2 _ _ _ rfl | exact I0 _ (by omega) | exact J0 _ (by omega) | exact J1 _ (by omega) | exact J2 _ (by omega) | exact F0 _ (by omega) | exact F1 _ (by omega) | exact F2 _ (by omega) | exact F3 _ (by omega) | exact F4 _ (by omega) | exact P0 _ _ (by omega) (by omega) | exact P1 _ _ (by omega) (by omega) | exact P2 _ _ (by omega) (by omega) | exact hGB) | first | assumption | exact g1.2 _ _ _ rfl | exact I0 _ (by omega) | exact J0 _ (by omega) | exact J1 _ (by omega) | exact J2 _ (by omega) | exact F0 _ (by omega) | exact F1 _ (by omega) | exact F2 _ (by omega) | exact F3 _ (by omega) | exact F4 _ (by omega) | exact P0 _ _ (by omega) (by omega) | exact P1 _ _ (by omega) (by omega) | exact P2 _ _ (by omega) (by omega) | exact hGB)) (k := ?_)
    refine r_icmp_gt (t := 33) hm rfl rfl (fun c12 => ?_) (fun c12 => ?_)
    · refine r_sipush hm rfl (k := ?_)
      refine r_ireturn hm rfl rfl (by rfl) (Nat.le_of_ble_eq_true rfl) (Nat.le_of_ble_eq_true rfl) ?_
      have c9 : ¬ gdPut S i kd a := fun z => by unfold gdPut at z; omega
      unfold oPut aPut
      rw [if_neg (fun z => c9 z.1), if_neg c9]
      exact ⟨I, FxC.refl, rfl⟩
    · refine r_iload_n hm rfl (k := ?_)
      refine r_if_lt (t := 33) hm rfl rfl (fun c16 => ?_) (fun c16 => ?_)
      · refine r_sipush hm rfl (k := ?_)
        refine r_ireturn hm rfl rfl (by rfl) (Nat.le_of_ble_eq_true rfl) (Nat.le_of_ble_eq_true rfl) ?_
        have c9 : ¬ gdPut S i kd a := fun z => by unfold gdPut at z; omega
        unfold oPut aPut
        rw [if_neg (fun z => c9 z.1), if_neg c9]
        exact ⟨I, FxC.refl, rfl⟩
      · refine r_iload_n hm rfl (k := ?_)
        refine r_bipush hm rfl (k := ?_)
        refine r_icmp_gt (t := 33) hm rfl rfl (fun c22 => ?_) (fun c22 => ?_)
        · refine r_sipush hm rfl (k := ?_)
          refine r_ireturn hm rfl rfl (by rfl) (Nat.le_of_ble_eq_true rfl) (Nat.le_of_ble_eq_true rfl) ?_
          have c9 : ¬ gdPut S i kd a := fun z => by unfold gdPut at z; omega
          unfold oPut aPut
          rw [if_neg (fun z => c9 z.1), if_neg c9]
          exact ⟨I, FxC.refl, rfl⟩
        · refine r_iload_n hm rfl (k := ?_)
          refine r_iload_n hm rfl (k := ?_)
          refine r_calls (j2 := 16) hm rfl rfl rfl rfl rfl rfl (Nat.le_of_ble_eq_true rfl) (Nat.le_of_ble_eq_true rfl) rfl ⟨Nat.le_of_ble_eq_true rfl, Nat.le_of_ble_eq_true rfl, Nat.le_of_ble_eq_true rfl, Nat.le_of_ble_eq_true rfl, Nat.le_of_ble_eq_true rfl⟩ rfl (c_isMeasure) (fun v9 h9 p9 => ?_)
          obtain ⟨e1, e2⟩ := p9
          subst e2
          replace e1 := e1.symm
          subst e1
          obtain ⟨b9, eb9, hb9⟩ := ite01 (p := ((kd = 0 ∨ kd = 4) → 1 ≤ a ∧ a ≤ 4) ∧ ((kd = 2 ∨ kd = 3) → 1 ≤ a ∧ a ≤ 8))
          rw [eb9]
          change RN 15 30 _ _ _ 0 0 _
          dsimp only [Option.toList, List.cons_append, List.nil_append]
          refine r_if_ne (t := 37) hm rfl rfl (fun c30 => ?_) (fun c30 => ?_)
          · refine r_aload_n hm rfl (k := ?_)
            refine r_getR (hm := hm) (hf := rfl) (hd := rfl) (hs := (by first | assumption | exact (g1.1 _).trans rfl | exact I1 _ (by omega) | exact I2 _ (by omega) | exact I3 _ (by omega) | exact I4 _ (by omega))) (hv := (by first | exact putI_eq | exact (putI_ne (by omega)).trans (by first | exact putI_eq | exact (putI_ne (by omega)).trans (by first | first | assumption | exact g1.2 _ _ _ rfl | exact I0 _ (by omega) | exact J0 _ (by omega) | exact J1 _ (by omega) | exact J2 _ (by omega) | exact F0 _ (by omega) | exact F1 _ (by omega) | exact F2 _ (by omega) | exact F3 _ (by omega) | exact F4 _ (by omega) | exact P0 _ _ (by omega) (by omega) | exact P1 _ _ (by omega) (by omega) | exact P2 _ _ (by omega) (by omega) | exact hGB) | first | assumption | exact g1.2 _ _ _ rfl | exact I0 _ (by omega) | exact J0 _ (by omega) | exact J1 _ (by omega) | exact J2 _ (by omega) | exact F0 _ (by omega) | exact F1 _ (by omega) | exact F2 _ (by omega) | exact F3 _ (by omega) | exact F4 _ (by omega) | exact P0 _ _ (by omega) (by omega) | exact P1 _ _ (by omega) (by omega) | exact P2 _ _ (by omega) (by omega) | exact hGB) | first | assumption | exact g1.2 _ _ _ rfl | exact I0 _ (by omega) | exact J0 _ (by omega) | exact J1 _ (by omega) | exact J2 _ (by omega) | exact F0 _ (by omega) | exact F1 _ (by omega) | exact F2 _ (by omega) | exact F3 _ (by omega) | exact F4 _ (by omega) | exact P0 _ _ (by omega) (by omega) | exact P1 _ _ (by omega) (by omega) | exact P2 _ _ (by omega) (by omega) | exact hGB)) (k := ?_)
            refine r_getI (hm := hm) (hf := rfl) (hd := rfl) (hs := (by first | assumption | exact (g1.1 _).trans rfl | exact I1 _ (by omega) | exact I2 _ (by omega) | exact I3 _ (by omega) | exact I4 _ (by omega))) (hv := (by first | exact putI_eq | exact (putI_ne (by omega)).trans (by first | exact putI_eq | exact (putI_ne (by omega)).trans (by first | first | assumption | exact g1.2 _ _ _ rfl | exact I0 _ (by omega) | exact J0 _ (by omega) | exact J1 _ (by omega) | exact J2 _ (by omega) | exact F0 _ (by omega) | exact F1 _ (by omega) | exact F2 _ (by omega) | exact F3 _ (by omega) | exact F4 _ (by omega) | exact P0 _ _ (by omega) (by omega) | exact P1 _ _ (by omega) (by omega) | exact P2 _ _ (by omega) (by omega) | exact hGB) | first | assumption | exact g1.2 _ _ _ rfl | exact I0 _ (by omega) | exact J0 _ (by omega) | exact J1 _ (by omega) | exact J2 _ (by omega) | exact F0 _ (by omega) | exact F1 _ (by omega) | exact F2 _ (by omega) | exact F3 _ (by omega) | exact F4 _ (by omega) | exact P0 _ _ (by omega) (by omega) | exact P1 _ _ (by omega) (by omega) | exact P2 _ _ (by omega) (by omega) | exact hGB) | first | assumption | exact g1.2 _ _ _ rfl | exact I0 _ (by omega) | exact J0 _ (by omega) | exact J1 _ (by omega) | exact J2 _ (by omega) | exact F0 _ (by omega) | exact F1 _ (by omega) | exact F2 _ (by omega) | exact F3 _ (by omega) | exact F4 _ (by omega) | exact P0 _ _ (by omega) (by omega) | exact P1 _ _ (by omega) (by omega) | exact P2 _ _ (by omega) (by omega) | exact hGB)) (k := ?_)
            refine r_bipush hm rfl (k := ?_)
            refine r_icmp_ge (t := 59) hm rfl rfl (fun c46 => ?_) (fun c46 => ?_)
            · refine r_sipush hm rfl (k := ?_)
              refine r_ireturn hm rfl rfl (by rfl) (Nat.le_of_ble_eq_true rfl) (Nat.le_of_ble_eq_true rfl) ?_
              have c9 : gdPut S i kd a := by unfold gdPut; omega
              have c8 : fuPut S := by unfold fuPut; omega
              unfold oPut aPut
              rw [if_neg (fun z => z.2 c8), if_pos c9, if_pos c8]
              exact ⟨I, FxC.refl, rfl⟩
            · refine r_aload_n hm rfl (k := ?_)
              refine r_getI (hm := hm) (hf := rfl) (hd := rfl) (hs := (by first | assumption | exact (g1.1 _).trans rfl | exact I1 _ (by omega) | exact I2 _ (by omega) | exact I3 _ (by omega) | exact I4 _ (by omega))) (hv := (by first | exact putI_eq | exact (putI_ne (by omega)).trans (by first | exact putI_eq | exact (putI_ne (by omega)).trans (by first | first | assumption | exact g1.2 _ _ _ rfl | exact I0 _ (by omega) | exact J0 _ (by omega) | exact J1 _ (by omega) | exact J2 _ (by omega) | exact F0 _ (by omega) | exact F1 _ (by omega) | exact F2 _ (by omega) | exact F3 _ (by omega) | exact F4 _ (by omega) | exact P0 _ _ (by omega) (by omega) | exact P1 _ _ (by omega) (by omega) | exact P2 _ _ (by omega) (by omega) | exact hGB) | first | assumption | exact g1.2 _ _ _ rfl | exact I0 _ (by omega) | exact J0 _ (by omega) | exact J1 _ (by omega) | exact J2 _ (by omega) | exact F0 _ (by omega) | exact F1 _ (by omega) | exact F2 _ (by omega) | exact F3 _ (by omega) | exact F4 _ (by omega) | exact P0 _ _ (by omega) (by omega) | exact P1 _ _ (by omega) (by omega) | exact P2 _ _ (by omega) (by omega) | exact hGB) | first | assumption | exact g1.2 _ _ _ rfl | exact I0 _ (by omega) | exact J0 _ (by omega) | exact J1 _ (by omega) | exact J2 _ (by omega) | exact F0 _ (by omega) | exact F1 _ (by omega) | exact F2 _ (by omega) | exact F3 _ (by omega) | exact F4 _ (by omega) | exact P0 _ _ (by omega) (by omega) | exact P1 _ _ (by omega) (by omega) | exact P2 _ _ (by omega) (by omega) | exact hGB)) (k := ?_)
              refine r_sipush hm rfl (k := ?_)
              refine r_icmp_lt (t := 63) hm rfl rfl (fun c56 => ?_) (fun c56 => ?_)
              · obtain ⟨q, rfl⟩ := Int.eq_ofNat_of_zero_le (show 0 ≤ i by omega)
                refine r_aload_n hm rfl (k := ?_)
                refine r_getI (hm := hm) (hf := rfl) (hd := rfl) (hs := (by first | assumption | exact (g1.1 _).trans rfl | exact I1 _ (by omega) | exact I2 _ (by omega) | exact I3 _ (by omega) | exact I4 _ (by omega))) (hv := (by first | exact putI_eq | exact (putI_ne (by omega)).trans (by first | exact putI_eq | exact (putI_ne (by omega)).trans (by first | first | assumption | exact g1.2 _ _ _ rfl | exact I0 _ (by omega) | exact J0 _ (by omega) | exact J1 _ (by omega) | exact J2 _ (by omega) | exact F0 _ (by omega) | exact F1 _ (by omega) | exact F2 _ (by omega) | exact F3 _ (by omega) | exact F4 _ (by omega) | exact P0 _ _ (by omega) (by omega) | exact P1 _ _ (by omega) (by omega) | exact P2 _ _ (by omega) (by omega) | exact hGB) | first | assumption | exact g1.2 _ _ _ rfl | exact I0 _ (by omega) | exact J0 _ (by omega) | exact J1 _ (by omega) | exact J2 _ (by omega) | exact F0 _ (by omega) | exact F1 _ (by omega) | exact F2 _ (by omega) | exact F3 _ (by omega) | exact F4 _ (by omega) | exact P0 _ _ (by omega) (by omega) | exact P1 _ _ (by omega) (by omega) | exact P2 _ _ (by omega) (by omega) | exact hGB) | first | assumption | exact g1.2 _ _ _ rfl | exact I0 _ (by omega) | exact J0 _ (by omega) | exact J1 _ (by omega) | exact J2 _ (by omega) | exact F0 _ (by omega) | exact F1 _ (by omega) | exact F2 _ (by omega) | exact F3 _ (by omega) | exact F4 _ (by omega) | exact P0 _ _ (by omega) (by omega) | exact P1 _ _ (by omega) (by omega) | exact P2 _ _ (by omega) (by omega) | exact hGB)) (k := ?_)
                refine r_istore hm rfl (k := ?_)
                refine r_aload_n hm rfl (k := ?_)
                refine r_getR (hm := hm) (hf := rfl) (hd := rfl) (hs := (by first | assumption | exact (g1.1 _).trans rfl | exact I1 _ (by omega) | exact I2 _ (by omega) | exact I3 _ (by omega) | exact I4 _ (by omega))) (hv := (by first | exact putI_eq | exact (putI_ne (by omega)).trans (by first | exact putI_eq | exact (putI_ne (by omega)).trans (by first | first | assumption | exact g1.2 _ _ _ rfl | exact I0 _ (by omega) | exact J0 _ (by omega) | exact J1 _ (by omega) | exact J2 _ (by omega) | exact F0 _ (by omega) | exact F1 _ (by omega) | exact F2 _ (by omega) | exact F3 _ (by omega) | exact F4 _ (by omega) | exact P0 _ _ (by omega) (by omega) | exact P1 _ _ (by omega) (by omega) | exact P2 _ _ (by omega) (by omega) | exact hGB) | first | assumption | exact g1.2 _ _ _ rfl | exact I0 _ (by omega) | exact J0 _ (by omega) | exact J1 _ (by omega) | exact J2 _ (by omega) | exact F0 _ (by omega) | exact F1 _ (by omega) | exact F2 _ (by omega) | exact F3 _ (by omega) | exact F4 _ (by omega) | exact P0 _ _ (by omega) (by omega) | exact P1 _ _ (by omega) (by omega) | exact P2 _ _ (by omega) (by omega) | exact hGB) | first | assumption | exact g1.2 _ _ _ rfl | exact I0 _ (by omega) | exact J0 _ (by omega) | exact J1 _ (by omega) | exact J2 _ (by omega) | exact F0 _ (by omega) | exact F1 _ (by omega) | exact F2 _ (by omega) | exact F3 _ (by omega) | exact F4 _ (by omega) | exact P0 _ _ (by omega) (by omega) | exact P1 _ _ (by omega) (by omega) | exact P2 _ _ (by omega) (by omega) | exact hGB)) (k := ?_)
                refine r_iload_n hm rfl (k := ?_)
                refine r_iload hm rfl (k := ?_)
                refine r_iload_n hm rfl (k := ?_)
                refine r_iload_n hm rfl (k := ?_)
                refine r_calls (j2 := 17) hm rfl rfl rfl rfl rfl rfl (Nat.le_of_ble_eq_true rfl) (Nat.le_of_ble_eq_true rfl) rfl ⟨Nat.le_of_ble_eq_true rfl, Nat.le_of_ble_eq_true rfl, Nat.le_of_ble_eq_true rfl, Nat.le_of_ble_eq_true rfl, Nat.le_of_ble_eq_true rfl⟩ rfl (c_hasMeasure) (fun v9 h9 p9 => ?_)
                obtain ⟨e1, e2⟩ := p9
                subst e2
                replace e1 := e1.symm
                subst e1
                obtain ⟨b8, eb8, hb8⟩ := ite01 (p := kd = 0 ∨ kd = 4 ∨ kd = 2 ∨ kd = 3)
                rw [eb8]
                change RN 15 81 _ _ _ 0 0 _
                dsimp only [Option.toList, List.cons_append, List.nil_append]
                refine r_if_eq (t := 88) hm rfl rfl (fun c81 => ?_) (fun c81 => ?_)
                · refine r_iconst hm rfl (k := ?_)
                  refine r_callv (j2 := 18) hm rfl rfl rfl rfl rfl rfl (by first | assumption | exact (g1.1 _).trans rfl | exact I1 _ (by omega) | exact I2 _ (by omega) | exact I3 _ (by omega) | exact I4 _ (by omega)) (Nat.le_of_ble_eq_true rfl) (Nat.le_of_ble_eq_true rfl) rfl ⟨Nat.le_of_ble_eq_true rfl, Nat.le_of_ble_eq_true rfl, Nat.le_of_ble_eq_true rfl, Nat.le_of_ble_eq_true rfl, Nat.le_of_ble_eq_true rfl⟩ rfl (c_insert g ht hR (i := q) (by omega) (by omega)) (fun v9 hB p9 => ?_)
                  obtain ⟨g2, RB, hr2, hi2, e1⟩ := p9
                  subst e1
                  replace g1 := g2
                  have hGB : hB.2.1 28 9 = (S.2.2.2.1 : Int) := (hi2 _ _ (by omega)).trans hG
                  change RN 15 92 _ _ _ 0 0 _
                  dsimp only [Option.toList, List.nil_append]
                  refine r_aload_n hm rfl (k := ?_)
                  refine r_dup hm rfl (k := ?_)
                  refine r_getI (hm := hm) (hf := rfl) (hd := rfl) (hs := (by first | assumption | exact (g1.1 _).trans rfl | exact I1 _ (by omega) | exact I2 _ (by omega) | exact I3 _ (by omega) | exact I4 _ (by omega))) (hv := (by first | exact putI_eq | exact (putI_ne (by omega)).trans (by first | exact putI_eq | exact (putI_ne (by omega)).trans (by first | first | assumption | exact g1.2 _ _ _ rfl | exact I0 _ (by omega) | exact J0 _ (by omega) | exact J1 _ (by omega) | exact J2 _ (by omega) | exact F0 _ (by omega) | exact F1 _ (by omega) | exact F2 _ (by omega) | exact F3 _ (by omega) | exact F4 _ (by omega) | exact P0 _ _ (by omega) (by omega) | exact P1 _ _ (by omega) (by omega) | exact P2 _ _ (by omega) (by omega) | exact hGB) | first | assumption | exact g1.2 _ _ _ rfl | exact I0 _ (by omega) | exact J0 _ (by omega) | exact J1 _ (by omega) | exact J2 _ (by omega) | exact F0 _ (by omega) | exact F1 _ (by omega) | exact F2 _ (by omega) | exact F3 _ (by omega) | exact F4 _ (by omega) | exact P0 _ _ (by omega) (by omega) | exact P1 _ _ (by omega) (by omega) | exact P2 _ _ (by omega) (by omega) | exact hGB) | first | assumption | exact g1.2 _ _ _ rfl | exact I0 _ (by omega) | exact J0 _ (by omega) | exact J1 _ (by omega) | exact J2 _ (by omega) | exact F0 _ (by omega) | exact F1 _ (by omega) | exact F2 _ (by omega) | exact F3 _ (by omega) | exact F4 _ (by omega) | exact P0 _ _ (by omega) (by omega) | exact P1 _ _ (by omega) (by omega) | exact P2 _ _ (by omega) (by omega) | exact hGB)) (k := ?_)
                  refine r_iconst hm rfl (k := ?_)
                  refine r_iadd hm rfl (hr := (by omega)) (k := ?_)
                  refine r_putI (hm := hm) (hf := rfl) (hd := rfl) (hs := (by first | assumption | exact (g1.1 _).trans rfl | exact I1 _ (by omega) | exact I2 _ (by omega) | exact I3 _ (by omega) | exact I4 _ (by omega))) (hfin := Or.inl rfl) (hz := fun q9 => absurd q9 (by decide)) (k := ?_)
                  refine r_aload_n hm rfl (k := ?_)
                  refine r_iconst hm rfl (k := ?_)
                  refine r_putI (hm := hm) (hf := rfl) (hd := rfl) (hs := (by first | assumption | exact (g1.1 _).trans rfl | exact I1 _ (by omega) | exact I2 _ (by omega) | exact I3 _ (by omega) | exact I4 _ (by omega))) (hfin := Or.inl rfl) (hz := fun _ => by omega) (k := ?_)
                  refine r_iload hm rfl (k := ?_)
                  refine r_ireturn hm rfl rfl (by rfl) (Nat.le_of_ble_eq_true rfl) (Nat.le_of_ble_eq_true rfl) ?_
                  have c9 : gdPut S (q : Int) kd a := by unfold gdPut; omega
                  have c8 : ¬ fuPut S := by unfold fuPut; omega
                  have ems : msOf kd a = 0 := if_neg (by omega)
                  unfold oPut aPut
                  rw [if_pos ⟨c9, c8⟩, if_pos c9, if_neg c8]
                  refine ⟨?_, fun a9 k9 e9 => by rw [putI_ne (by omega), putI_ne (by omega)]; exact hi2 a9 k9 (by omega), rfl⟩
                  unfold nwPut
                  rw [ems, Int.toNat_natCast]
                  exact I.mut ⟨g2.1, g2.2⟩ (fun a9 k9 e9 => hr2 a9 k9 e9) (fun a9 k9 e9 => by rw [putI_ne (by omega), putI_ne (by omega)]; exact hi2 a9 k9 (by omega)) (RB.fr (fun _ => rfl) (fun a9 k9 e1 e2 => by rw [putI_ne (by omega), putI_ne (by omega)])) (by rw [putI_ne (by omega), putI_eq]; rfl) putI_eq
                · refine r_iload_n hm rfl (k := ?_)
                  refine r_goto (t := 89) hm rfl (k := ?_)
                  refine r_callv (j2 := 18) hm rfl rfl rfl rfl rfl rfl (by first | assumption | exact (g1.1 _).trans rfl | exact I1 _ (by omega) | exact I2 _ (by omega) | exact I3 _ (by omega) | exact I4 _ (by omega)) (Nat.le_of_ble_eq_true rfl) (Nat.le_of_ble_eq_true rfl) rfl ⟨Nat.le_of_ble_eq_true rfl, Nat.le_of_ble_eq_true rfl, Nat.le_of_ble_eq_true rfl, Nat.le_of_ble_eq_true rfl, Nat.le_of_ble_eq_true rfl⟩ rfl (c_insert g ht hR (i := q) (by omega) (by omega)) (fun v9 hB p9 => ?_)
                  obtain ⟨g2, RB, hr2, hi2, e1⟩ := p9
                  subst e1
                  replace g1 := g2
                  have hGB : hB.2.1 28 9 = (S.2.2.2.1 : Int) := (hi2 _ _ (by omega)).trans hG
                  change RN 15 92 _ _ _ 0 0 _
                  dsimp only [Option.toList, List.nil_append]
                  refine r_aload_n hm rfl (k := ?_)
                  refine r_dup hm rfl (k := ?_)
                  refine r_getI (hm := hm) (hf := rfl) (hd := rfl) (hs := (by first | assumption | exact (g1.1 _).trans rfl | exact I1 _ (by omega) | exact I2 _ (by omega) | exact I3 _ (by omega) | exact I4 _ (by omega))) (hv := (by first | exact putI_eq | exact (putI_ne (by omega)).trans (by first | exact putI_eq | exact (putI_ne (by omega)).trans (by first | first | assumption | exact g1.2 _ _ _ rfl | exact I0 _ (by omega) | exact J0 _ (by omega) | exact J1 _ (by omega) | exact J2 _ (by omega) | exact F0 _ (by omega) | exact F1 _ (by omega) | exact F2 _ (by omega) | exact F3 _ (by omega) | exact F4 _ (by omega) | exact P0 _ _ (by omega) (by omega) | exact P1 _ _ (by omega) (by omega) | exact P2 _ _ (by omega) (by omega) | exact hGB) | first | assumption | exact g1.2 _ _ _ rfl | exact I0 _ (by omega) | exact J0 _ (by omega) | exact J1 _ (by omega) | exact J2 _ (by omega) | exact F0 _ (by omega) | exact F1 _ (by omega) | exact F2 _ (by omega) | exact F3 _ (by omega) | exact F4 _ (by omega) | exact P0 _ _ (by omega) (by omega) | exact P1 _ _ (by omega) (by omega) | exact P2 _ _ (by omega) (by omega) | exact hGB) | first | assumption | exact g1.2 _ _ _ rfl | exact I0 _ (by omega) | exact J0 _ (by omega) | exact J1 _ (by omega) | exact J2 _ (by omega) | exact F0 _ (by omega) | exact F1 _ (by omega) | exact F2 _ (by omega) | exact F3 _ (by omega) | exact F4 _ (by omega) | exact P0 _ _ (by omega) (by omega) | exact P1 _ _ (by omega) (by omega) | exact P2 _ _ (by omega) (by omega) | exact hGB)) (k := ?_)
                  refine r_iconst hm rfl (k := ?_)
                  refine r_iadd hm rfl (hr := (by omega)) (k := ?_)
                  refine r_putI (hm := hm) (hf := rfl) (hd := rfl) (hs := (by first | assumption | exact (g1.1 _).trans rfl | exact I1 _ (by omega) | exact I2 _ (by omega) | exact I3 _ (by omega) | exact I4 _ (by omega))) (hfin := Or.inl rfl) (hz := fun q9 => absurd q9 (by decide)) (k := ?_)
                  refine r_aload_n hm rfl (k := ?_)
                  refine r_iconst hm rfl (k := ?_)
                  refine r_putI (hm := hm) (hf := rfl) (hd := rfl) (hs := (by first | assumption | exact (g1.1 _).trans rfl | exact I1 _ (by omega) | exact I2 _ (by omega) | exact I3 _ (by omega) | exact I4 _ (by omega))) (hfin := Or.inl rfl) (hz := fun _ => by omega) (k := ?_)
                  refine r_iload hm rfl (k := ?_)
                  refine r_ireturn hm rfl rfl (by rfl) (Nat.le_of_ble_eq_true rfl) (Nat.le_of_ble_eq_true rfl) ?_
                  have c9 : gdPut S (q : Int) kd a := by unfold gdPut; omega
                  have c8 : ¬ fuPut S := by unfold fuPut; omega
                  have ems : msOf kd a = a := if_pos (by omega)
                  unfold oPut aPut
                  rw [if_pos ⟨c9, c8⟩, if_pos c9, if_neg c8]
                  refine ⟨?_, fun a9 k9 e9 => by rw [putI_ne (by omega), putI_ne (by omega)]; exact hi2 a9 k9 (by omega), rfl⟩
                  unfold nwPut
                  rw [ems, Int.toNat_natCast]
                  exact I.mut ⟨g2.1, g2.2⟩ (fun a9 k9 e9 => hr2 a9 k9 e9) (fun a9 k9 e9 => by rw [putI_ne (by omega), putI_ne (by omega)]; exact hi2 a9 k9 (by omega)) (RB.fr (fun _ => rfl) (fun a9 k9 e1 e2 => by rw [putI_ne (by omega), putI_ne (by omega)])) (by rw [putI_ne (by omega), putI_eq]; rfl) putI_eq
              · refine r_sipush hm rfl (k := ?_)
                refine r_ireturn hm rfl rfl (by rfl) (Nat.le_of_ble_eq_true rfl) (Nat.le_of_ble_eq_true rfl) ?_
                have c9 : gdPut S i kd a := by unfold gdPut; omega
                have c8 : fuPut S := by unfold fuPut; omega
                unfold oPut aPut
                rw [if_neg (fun z => z.2 c8), if_pos c9, if_pos c8]
                exact ⟨I, FxC.refl, rfl⟩
          · refine r_sipush hm rfl (k := ?_)
            refine r_ireturn hm rfl rfl (by rfl) (Nat.le_of_ble_eq_true rfl) (Nat.le_of_ble_eq_true rfl) ?_
            have c9 : ¬ gdPut S i kd a := fun z => by unfold gdPut at z; omega
            unfold oPut aPut
            rw [if_neg (fun z => c9 z.1), if_neg c9]
            exact ⟨I, FxC.refl, rfl⟩
set_option maxRecDepth 8000 in
theorem c_cut {L : Nat} {h : Hp} {S : St} (I : InvC L h S) (ok : okS S) {i : Int} : RN 21 0 [some (.inr (.inr (some (28)))), some (.inl i), none] [] h 0 0 (fun v h2 => InvC L h2 (oCut S i) ∧ FxC h h2 ∧ v = some (.inl (aCut S i))) := by
  have hm : mrec 21 = some nM21 := rfl
  obtain ⟨g, C, hR, hV, hK, hG, hSt, hL, hB, hFl⟩ := id I
  have hok := ok.1
  have ht : isT 29 := Or.inl rfl
  obtain ⟨T1, T2, T3, T4, T5, T6, T7⟩ := g.tx ht
  obtain ⟨I0, I1, I2, I3, I4, J0, J1, J2, F0, F1, F2, F3, F4, P0, P1, P2⟩ := hR.use g ht
  obtain ⟨R1, R2, R3, R4, R5, R6, R7⟩ := id hR
  have n60 := hok.1
  have g1 := g
  refine r_aload_n hm rfl (k := ?_)
  refine r_getR (hm := hm) (hf := rfl) (hd := rfl) (hs := (by first | assumption | exact (g1.1 _).trans rfl | exact I1 _ (by omega) | exact I2 _ (by omega) | exact I3 _ (by omega) | exact I4 _ (by omega))) (hv := (by first | assumption | exact g1.2 _ _ _ rfl | exact I0 _ (by omega) | exact J0 _ (by omega) | exact J1 _ (by omega) | exact J2 _ (by omega) | exact F0 _ (by omega) | exact F1 _ (by omega) | exact F2 _ (by omega) | exact F3 _ (by omega) | exact F4 _ (by omega) | exact P0 _ _ (by omega) (by omega) | exact P1 _ _ (by omega) (by omega) | exact P2 _ _ (by omega) (by omega))) (k := ?_)
  refine r_iload_n hm rfl (k := ?_)
  refine r_callv (j2 := 22) hm rfl rfl rfl rfl rfl rfl (by first | assumption | exact (g1.1 _).trans rfl | exact I1 _ (by omega) | exact I2 _ (by omega) | exact I3 _ (by omega) | exact I4 _ (by omega)) (Nat.le_of_ble_eq_true rfl) (Nat.le_of_ble_eq_true rfl) rfl ⟨Nat.le_of_ble_eq_true rfl, Nat.le_of_ble_eq_true rfl, Nat.le_of_ble_eq_true rfl, Nat.le_of_ble_eq_true rfl, Nat.le_of_ble_eq_true rfl⟩ rfl (c_has g ht hR) (fun v9 h9 p9 => ?_)
  obtain ⟨e1, e2⟩ := p9
  subst e2
  replace e1 := e1.symm
  subst e1
  obtain ⟨b9, eb9, hb9⟩ := ite01 (p := 0 ≤ i ∧ i < (S.1.1 : Int))
  rw [eb9]
  change RN 21 8 _ _ _ 0 0 _
  dsimp only [Option.toList, List.cons_append, List.nil_append]
  refine r_if_ne (t := 15) hm rfl rfl (fun c8 => ?_) (fun c8 => ?_)
  · obtain ⟨q, rfl⟩ := Int.eq_ofNat_of_zero_le (show 0 ≤ i by omega)
    refine r_aload_n hm rfl (k := ?_)
    refine r_getR (hm := hm) (hf := rfl) (hd := rfl) (hs := (by first | assumption | exact (g1.1 _).trans rfl | exact I1 _ (by omega) | exact I2 _ (by omega) | exact I3 _ (by omega) | exact I4 _ (by omega))) (hv := (by first | assumption | exact g1.2 _ _ _ rfl | exact I0 _ (by omega) | exact J0 _ (by omega) | exact J1 _ (by omega) | exact J2 _ (by omega) | exact F0 _ (by omega) | exact F1 _ (by omega) | exact F2 _ (by omega) | exact F3 _ (by omega) | exact F4 _ (by omega) | exact P0 _ _ (by omega) (by omega) | exact P1 _ _ (by omega) (by omega) | exact P2 _ _ (by omega) (by omega))) (k := ?_)
    refine r_getR (hm := hm) (hf := rfl) (hd := rfl) (hs := (by first | assumption | exact (g1.1 _).trans rfl | exact I1 _ (by omega) | exact I2 _ (by omega) | exact I3 _ (by omega) | exact I4 _ (by omega))) (hv := (by first | assumption | exact g1.2 _ _ _ rfl | exact I0 _ (by omega) | exact J0 _ (by omega) | exact J1 _ (by omega) | exact J2 _ (by omega) | exact F0 _ (by omega) | exact F1 _ (by omega) | exact F2 _ (by omega) | exact F3 _ (by omega) | exact F4 _ (by omega) | exact P0 _ _ (by omega) (by omega) | exact P1 _ _ (by omega) (by omega) | exact P2 _ _ (by omega) (by omega))) (k := ?_)
    refine r_iload_n hm rfl (k := ?_)
    refine r_aald (hm := hm) (hf := rfl) (hs := (by first | assumption | exact (g1.1 _).trans rfl | exact I1 _ (by omega) | exact I2 _ (by omega) | exact I3 _ (by omega) | exact I4 _ (by omega))) (hkd := by decide) (hi := rfl) (hn := (by omega)) (hv := (by first | assumption | exact g1.2 _ _ _ rfl | exact I0 _ (by omega) | exact J0 _ (by omega) | exact J1 _ (by omega) | exact J2 _ (by omega) | exact F0 _ (by omega) | exact F1 _ (by omega) | exact F2 _ (by omega) | exact F3 _ (by omega) | exact F4 _ (by omega) | exact P0 _ _ (by omega) (by omega) | exact P1 _ _ (by omega) (by omega) | exact P2 _ _ (by omega) (by omega))) (k := ?_)
    refine r_getI (hm := hm) (hf := rfl) (hd := rfl) (hs := (by first | assumption | exact (g1.1 _).trans rfl | exact I1 _ (by omega) | exact I2 _ (by omega) | exact I3 _ (by omega) | exact I4 _ (by omega))) (hv := (by first | assumption | exact g1.2 _ _ _ rfl | exact I0 _ (by omega) | exact J0 _ (by omega) | exact J1 _ (by omega) | exact J2 _ (by omega) | exact F0 _ (by omega) | exact F1 _ (by omega) | exact F2 _ (by omega) | exact F3 _ (by omega) | exact F4 _ (by omega) | exact P0 _ _ (by omega) (by omega) | exact P1 _ _ (by omega) (by omega) | exact P2 _ _ (by omega) (by omega))) (k := ?_)
    refine r_istore_n hm rfl (k := ?_)
    refine r_aload_n hm rfl (k := ?_)
    refine r_getR (hm := hm) (hf := rfl) (hd := rfl) (hs := (by first | assumption | exact (g1.1 _).trans rfl | exact I1 _ (by omega) | exact I2 _ (by omega) | exact I3 _ (by omega) | exact I4 _ (by omega))) (hv := (by first | assumption | exact g1.2 _ _ _ rfl | exact I0 _ (by omega) | exact J0 _ (by omega) | exact J1 _ (by omega) | exact J2 _ (by omega) | exact F0 _ (by omega) | exact F1 _ (by omega) | exact F2 _ (by omega) | exact F3 _ (by omega) | exact F4 _ (by omega) | exact P0 _ _ (by omega) (by omega) | exact P1 _ _ (by omega) (by omega) | exact P2 _ _ (by omega) (by omega))) (k := ?_)
    refine r_iload_n hm rfl (k := ?_)
    refine r_callv (j2 := 23) hm rfl rfl rfl rfl rfl rfl (by first | assumption | exact (g1.1 _).trans rfl | exact I1 _ (by omega) | exact I2 _ (by omega) | exact I3 _ (by omega) | exact I4 _ (by omega)) (Nat.le_of_ble_eq_true rfl) (Nat.le_of_ble_eq_true rfl) rfl ⟨Nat.le_of_ble_eq_true rfl, Nat.le_of_ble_eq_true rfl, Nat.le_of_ble_eq_true rfl, Nat.le_of_ble_eq_true rfl, Nat.le_of_ble_eq_true rfl⟩ rfl (c_takeOut g ht hR (i := q) (by omega)) (fun v9 hB p9 => ?_)
    obtain ⟨g2, RB, hr2, hi2, e1⟩ := p9
    subst e1
    replace g1 := g2
    change RN 21 36 _ _ _ 0 0 _
    dsimp only [Option.toList, List.nil_append]
    refine r_aload_n hm rfl (k := ?_)
    refine r_iconst hm rfl (k := ?_)
    refine r_putI (hm := hm) (hf := rfl) (hd := rfl) (hs := (by first | assumption | exact (g1.1 _).trans rfl | exact I1 _ (by omega) | exact I2 _ (by omega) | exact I3 _ (by omega) | exact I4 _ (by omega))) (hfin := Or.inl rfl) (hz := fun _ => by omega) (k := ?_)
    refine r_iload_n hm rfl (k := ?_)
    refine r_ireturn hm rfl rfl (by rfl) (Nat.le_of_ble_eq_true rfl) (Nat.le_of_ble_eq_true rfl) ?_
    unfold oCut aCut
    rw [if_pos (by omega), if_pos (by omega), Int.toNat_natCast]
    refine ⟨?_, fun a9 k9 e9 => by rw [putI_ne (by omega)]; exact hi2 a9 k9 (by omega), rfl⟩
    exact I.mut ⟨g2.1, g2.2⟩ (fun a9 k9 e9 => hr2 a9 k9 e9) (fun a9 k9 e9 => by rw [putI_ne (by omega)]; exact hi2 a9 k9 (by omega)) (RB.fr (fun _ => rfl) (fun a9 k9 e1 e2 => by rw [putI_ne (by omega)])) (by rw [putI_ne (by omega)]; exact (hi2 _ _ (by omega)).trans hG) putI_eq
  · refine r_sipush hm rfl (k := ?_)
    refine r_ireturn hm rfl rfl (by rfl) (Nat.le_of_ble_eq_true rfl) (Nat.le_of_ble_eq_true rfl) ?_
    unfold oCut aCut
    rw [if_neg (by omega), if_neg (by omega)]
    exact ⟨I, FxC.refl, rfl⟩
set_option maxRecDepth 8000 in
theorem c_move {L : Nat} {h : Hp} {S : St} (I : InvC L h S) (ok : okS S) {i j9 : Int} : RN 24 0 [some (.inr (.inr (some (28)))), some (.inl i), some (.inl j9)] [] h 0 0 (fun v h2 => InvC L h2 (oMove S i j9) ∧ FxC h h2 ∧ v = some (.inl (aMove S i j9))) := by
  have hm : mrec 24 = some nM24 := rfl
  obtain ⟨g, C, hR, hV, hK, hG, hSt, hL, hB, hFl⟩ := id I
  have hok := ok.1
  have ht : isT 29 := Or.inl rfl
  obtain ⟨T1, T2, T3, T4, T5, T6, T7⟩ := g.tx ht
  obtain ⟨I0, I1, I2, I3, I4, J0, J1, J2, F0, F1, F2, F3, F4, P0, P1, P2⟩ := hR.use g ht
  obtain ⟨R1, R2, R3, R4, R5, R6, R7⟩ := id hR
  have n60 := hok.1
  have g1 := g
  refine r_aload_n hm rfl (k := ?_)
  refine r_getR (hm := hm) (hf := rfl) (hd := rfl) (hs := (by first | assumption | exact (g1.1 _).trans rfl | exact I1 _ (by omega) | exact I2 _ (by omega) | exact I3 _ (by omega) | exact I4 _ (by omega))) (hv := (by first | assumption | exact g1.2 _ _ _ rfl | exact I0 _ (by omega) | exact J0 _ (by omega) | exact J1 _ (by omega) | exact J2 _ (by omega) | exact F0 _ (by omega) | exact F1 _ (by omega) | exact F2 _ (by omega) | exact F3 _ (by omega) | exact F4 _ (by omega) | exact P0 _ _ (by omega) (by omega) | exact P1 _ _ (by omega) (by omega) | exact P2 _ _ (by omega) (by omega))) (k := ?_)
  refine r_iload_n hm rfl (k := ?_)
  refine r_callv (j2 := 22) hm rfl rfl rfl rfl rfl rfl (by first | assumption | exact (g1.1 _).trans rfl | exact I1 _ (by omega) | exact I2 _ (by omega) | exact I3 _ (by omega) | exact I4 _ (by omega)) (Nat.le_of_ble_eq_true rfl) (Nat.le_of_ble_eq_true rfl) rfl ⟨Nat.le_of_ble_eq_true rfl, Nat.le_of_ble_eq_true rfl, Nat.le_of_ble_eq_true rfl, Nat.le_of_ble_eq_true rfl, Nat.le_of_ble_eq_true rfl⟩ rfl (c_has g ht hR) (fun v9 h9 p9 => ?_)
  obtain ⟨e1, e2⟩ := p9
  subst e2
  replace e1 := e1.symm
  subst e1
  obtain ⟨b9, eb9, hb9⟩ := ite01 (p := 0 ≤ i ∧ i < (S.1.1 : Int))
  rw [eb9]
  change RN 24 8 _ _ _ 0 0 _
  dsimp only [Option.toList, List.cons_append, List.nil_append]
  refine r_if_eq (t := 22) hm rfl rfl (fun c8 => ?_) (fun c8 => ?_)
  · refine r_sipush hm rfl (k := ?_)
    refine r_ireturn hm rfl rfl (by rfl) (Nat.le_of_ble_eq_true rfl) (Nat.le_of_ble_eq_true rfl) ?_
    unfold oMove aMove
    rw [if_neg (by omega), if_neg (by omega)]
    exact ⟨I, FxC.refl, rfl⟩
  · refine r_aload_n hm rfl (k := ?_)
    refine r_getR (hm := hm) (hf := rfl) (hd := rfl) (hs := (by first | assumption | exact (g1.1 _).trans rfl | exact I1 _ (by omega) | exact I2 _ (by omega) | exact I3 _ (by omega) | exact I4 _ (by omega))) (hv := (by first | assumption | exact g1.2 _ _ _ rfl | exact I0 _ (by omega) | exact J0 _ (by omega) | exact J1 _ (by omega) | exact J2 _ (by omega) | exact F0 _ (by omega) | exact F1 _ (by omega) | exact F2 _ (by omega) | exact F3 _ (by omega) | exact F4 _ (by omega) | exact P0 _ _ (by omega) (by omega) | exact P1 _ _ (by omega) (by omega) | exact P2 _ _ (by omega) (by omega))) (k := ?_)
    refine r_iload_n hm rfl (k := ?_)
    refine r_callv (j2 := 22) hm rfl rfl rfl rfl rfl rfl (by first | assumption | exact (g1.1 _).trans rfl | exact I1 _ (by omega) | exact I2 _ (by omega) | exact I3 _ (by omega) | exact I4 _ (by omega)) (Nat.le_of_ble_eq_true rfl) (Nat.le_of_ble_eq_true rfl) rfl ⟨Nat.le_of_ble_eq_true rfl, Nat.le_of_ble_eq_true rfl, Nat.le_of_ble_eq_true rfl, Nat.le_of_ble_eq_true rfl, Nat.le_of_ble_eq_true rfl⟩ rfl (c_has g ht hR) (fun v9 h9 p9 => ?_)
    obtain ⟨e1, e2⟩ := p9
    subst e2
    replace e1 := e1.symm
    subst e1
    obtain ⟨b8, eb8, hb8⟩ := ite01 (p := 0 ≤ j9 ∧ j9 < (S.1.1 : Int))
    rw [eb8]
    change RN 24 19 _ _ _ 0 0 _
    dsimp only [Option.toList, List.cons_append, List.nil_append]
    refine r_if_ne (t := 26) hm rfl rfl (fun c19 => ?_) (fun c19 => ?_)
    · obtain ⟨q, rfl⟩ := Int.eq_ofNat_of_zero_le (show 0 ≤ i by omega)
      obtain ⟨q2, rfl⟩ := Int.eq_ofNat_of_zero_le (show 0 ≤ j9 by omega)
      have RQ : RepQ h 29 S.1 := hR.2
      refine r_aload_n hm rfl (k := ?_)
      refine r_getR (hm := hm) (hf := rfl) (hd := rfl) (hs := (by first | assumption | exact (g1.1 _).trans rfl | exact I1 _ (by omega) | exact I2 _ (by omega) | exact I3 _ (by omega) | exact I4 _ (by omega))) (hv := (by first | assumption | exact g1.2 _ _ _ rfl | exact I0 _ (by omega) | exact J0 _ (by omega) | exact J1 _ (by omega) | exact J2 _ (by omega) | exact F0 _ (by omega) | exact F1 _ (by omega) | exact F2 _ (by omega) | exact F3 _ (by omega) | exact F4 _ (by omega) | exact P0 _ _ (by omega) (by omega) | exact P1 _ _ (by omega) (by omega) | exact P2 _ _ (by omega) (by omega))) (k := ?_)
      refine r_iload_n hm rfl (k := ?_)
      refine r_iload_n hm rfl (k := ?_)
      refine r_callv (j2 := 20) hm rfl rfl rfl rfl rfl rfl (by first | assumption | exact (g1.1 _).trans rfl | exact I1 _ (by omega) | exact I2 _ (by omega) | exact I3 _ (by omega) | exact I4 _ (by omega)) (Nat.le_of_ble_eq_true rfl) (Nat.le_of_ble_eq_true rfl) rfl ⟨Nat.le_of_ble_eq_true rfl, Nat.le_of_ble_eq_true rfl, Nat.le_of_ble_eq_true rfl, Nat.le_of_ble_eq_true rfl, Nat.le_of_ble_eq_true rfl⟩ rfl (c_shift g ht RQ (fr := q) (to := q2) (by omega) (by omega)) (fun v9 hB p9 => ?_)
      obtain ⟨SB, e1⟩ := p9
      subst e1
      have g2 := SB.gg ht g
      have QB := SB.rep RQ (n := S.1.1) (fun q9 hq9 => shI_lt (by omega) (by omega) hq9) (fun a b => shI_inj) (by omega) (fun q9 hq9 => shI_lt (by omega) (by omega) hq9)
      replace g1 := g2
      change RN 24 35 _ _ _ 0 0 _
      dsimp only [Option.toList, List.nil_append]
      refine r_aload_n hm rfl (k := ?_)
      refine r_iconst hm rfl (k := ?_)
      refine r_putI (hm := hm) (hf := rfl) (hd := rfl) (hs := (by first | assumption | exact (g1.1 _).trans rfl | exact I1 _ (by omega) | exact I2 _ (by omega) | exact I3 _ (by omega) | exact I4 _ (by omega))) (hfin := Or.inl rfl) (hz := fun _ => by omega) (k := ?_)
      refine r_iconst hm rfl (k := ?_)
      refine r_ireturn hm rfl rfl (by rfl) (Nat.le_of_ble_eq_true rfl) (Nat.le_of_ble_eq_true rfl) ?_
      unfold oMove aMove
      rw [if_pos (by omega), if_pos (by omega), Int.toNat_natCast, Int.toNat_natCast]
      refine ⟨?_, fun a9 k9 e9 => by rw [putI_ne (by omega), SB.2.1], rfl⟩
      exact I.mut ⟨g2.1, g2.2⟩ (fun a9 k9 e9 => SB.2.2.2.1 a9 k9 e9) (fun a9 k9 e9 => by rw [putI_ne (by omega), SB.2.1]) ⟨(putI_ne (by omega)).trans (by rw [SB.2.1]; exact R1), RepQ.ch QB QB.1 (fun _ => rfl) (fun f i9 hf hi9 => by have := itm_rng QB (i := i9) (Nat.lt_of_lt_of_le hi9 QB.1); rw [putI_ne (by omega)]; exact QB.2.2.2.1 f i9 hf hi9) (fun f i9 k hf hi9 hk => by have := itm_rng QB (i := i9) (Nat.lt_of_lt_of_le hi9 QB.1); rw [putI_ne (by omega)]; exact QB.2.2.2.2.1 f i9 k hf hi9 hk) (fun k hk => by rw [putI_ne (by omega)]; exact QB.2.2.2.2.2 k hk)⟩ (by rw [putI_ne (by omega), SB.2.1]; exact hG) putI_eq
    · refine r_sipush hm rfl (k := ?_)
      refine r_ireturn hm rfl rfl (by rfl) (Nat.le_of_ble_eq_true rfl) (Nat.le_of_ble_eq_true rfl) ?_
      unfold oMove aMove
      rw [if_neg (by omega), if_neg (by omega)]
      exact ⟨I, FxC.refl, rfl⟩
set_option maxRecDepth 8000 in
theorem c_mark {L : Nat} {h : Hp} {S : St} (I : InvC L h S) (ok : okS S) {i m : Int} : RN 25 0 [some (.inr (.inr (some (28)))), some (.inl i), some (.inl m), none, none] [] h 0 0 (fun v h2 => InvC L h2 (oMark S i m) ∧ FxC h h2 ∧ v = some (.inl (aMark S i m))) := by
  have hm : mrec 25 = some nM25 := rfl
  obtain ⟨g, C, hR, hV, hK, hG, hSt, hL, hB, hFl⟩ := id I
  have hok := ok.1
  have ht : isT 29 := Or.inl rfl
  obtain ⟨T1, T2, T3, T4, T5, T6, T7⟩ := g.tx ht
  obtain ⟨I0, I1, I2, I3, I4, J0, J1, J2, F0, F1, F2, F3, F4, P0, P1, P2⟩ := hR.use g ht
  obtain ⟨R1, R2, R3, R4, R5, R6, R7⟩ := id hR
  have n60 := hok.1
  have g1 := g
  refine r_aload_n hm rfl (k := ?_)
  refine r_getR (hm := hm) (hf := rfl) (hd := rfl) (hs := (by first | assumption | exact (g1.1 _).trans rfl | exact I1 _ (by omega) | exact I2 _ (by omega) | exact I3 _ (by omega) | exact I4 _ (by omega))) (hv := (by first | assumption | exact g1.2 _ _ _ rfl | exact I0 _ (by omega) | exact J0 _ (by omega) | exact J1 _ (by omega) | exact J2 _ (by omega) | exact F0 _ (by omega) | exact F1 _ (by omega) | exact F2 _ (by omega) | exact F3 _ (by omega) | exact F4 _ (by omega) | exact P0 _ _ (by omega) (by omega) | exact P1 _ _ (by omega) (by omega) | exact P2 _ _ (by omega) (by omega))) (k := ?_)
  refine r_iload_n hm rfl (k := ?_)
  refine r_callv (j2 := 22) hm rfl rfl rfl rfl rfl rfl (by first | assumption | exact (g1.1 _).trans rfl | exact I1 _ (by omega) | exact I2 _ (by omega) | exact I3 _ (by omega) | exact I4 _ (by omega)) (Nat.le_of_ble_eq_true rfl) (Nat.le_of_ble_eq_true rfl) rfl ⟨Nat.le_of_ble_eq_true rfl, Nat.le_of_ble_eq_true rfl, Nat.le_of_ble_eq_true rfl, Nat.le_of_ble_eq_true rfl, Nat.le_of_ble_eq_true rfl⟩ rfl (c_has g ht hR) (fun v9 h9 p9 => ?_)
  obtain ⟨e1, e2⟩ := p9
  subst e2
  replace e1 := e1.symm
  subst e1
  obtain ⟨b9, eb9, hb9⟩ := ite01 (p := 0 ≤ i ∧ i < (S.1.1 : Int))
  rw [eb9]
  change RN 25 8 _ _ _ 0 0 _
  dsimp only [Option.toList, List.cons_append, List.nil_append]
  refine r_if_ne (t := 15) hm rfl rfl (fun c8 => ?_) (fun c8 => ?_)
  · obtain ⟨q, rfl⟩ := Int.eq_ofNat_of_zero_le (show 0 ≤ i by omega)
    have rq := itm_rng (hR.2 : RepQ h 29 S.1) (i := q) (by omega)
    refine r_iload_n hm rfl (k := ?_)
    refine r_iconst hm rfl (k := ?_)
    refine r_icmp_eq (t := 31) hm rfl rfl (fun c17 => ?_) (fun c17 => ?_)
    · refine r_aload_n hm rfl (k := ?_)
      refine r_getR (hm := hm) (hf := rfl) (hd := rfl) (hs := (by first | assumption | exact (g1.1 _).trans rfl | exact I1 _ (by omega) | exact I2 _ (by omega) | exact I3 _ (by omega) | exact I4 _ (by omega))) (hv := (by first | assumption | exact g1.2 _ _ _ rfl | exact I0 _ (by omega) | exact J0 _ (by omega) | exact J1 _ (by omega) | exact J2 _ (by omega) | exact F0 _ (by omega) | exact F1 _ (by omega) | exact F2 _ (by omega) | exact F3 _ (by omega) | exact F4 _ (by omega) | exact P0 _ _ (by omega) (by omega) | exact P1 _ _ (by omega) (by omega) | exact P2 _ _ (by omega) (by omega))) (k := ?_)
      refine r_getR (hm := hm) (hf := rfl) (hd := rfl) (hs := (by first | assumption | exact (g1.1 _).trans rfl | exact I1 _ (by omega) | exact I2 _ (by omega) | exact I3 _ (by omega) | exact I4 _ (by omega))) (hv := (by first | assumption | exact g1.2 _ _ _ rfl | exact I0 _ (by omega) | exact J0 _ (by omega) | exact J1 _ (by omega) | exact J2 _ (by omega) | exact F0 _ (by omega) | exact F1 _ (by omega) | exact F2 _ (by omega) | exact F3 _ (by omega) | exact F4 _ (by omega) | exact P0 _ _ (by omega) (by omega) | exact P1 _ _ (by omega) (by omega) | exact P2 _ _ (by omega) (by omega))) (k := ?_)
      refine r_iload_n hm rfl (k := ?_)
      refine r_aald (hm := hm) (hf := rfl) (hs := (by first | assumption | exact (g1.1 _).trans rfl | exact I1 _ (by omega) | exact I2 _ (by omega) | exact I3 _ (by omega) | exact I4 _ (by omega))) (hkd := by decide) (hi := rfl) (hn := (by omega)) (hv := (by first | assumption | exact g1.2 _ _ _ rfl | exact I0 _ (by omega) | exact J0 _ (by omega) | exact J1 _ (by omega) | exact J2 _ (by omega) | exact F0 _ (by omega) | exact F1 _ (by omega) | exact F2 _ (by omega) | exact F3 _ (by omega) | exact F4 _ (by omega) | exact P0 _ _ (by omega) (by omega) | exact P1 _ _ (by omega) (by omega) | exact P2 _ _ (by omega) (by omega))) (k := ?_)
      refine r_astore_n hm rfl (k := ?_)
      refine r_aload_n hm rfl (k := ?_)
      refine r_getI (hm := hm) (hf := rfl) (hd := rfl) (hs := (by first | assumption | exact (g1.1 _).trans rfl | exact I1 _ (by omega) | exact I2 _ (by omega) | exact I3 _ (by omega) | exact I4 _ (by omega))) (hv := (by first | assumption | exact g1.2 _ _ _ rfl | exact I0 _ (by omega) | exact J0 _ (by omega) | exact J1 _ (by omega) | exact J2 _ (by omega) | exact F0 _ (by omega) | exact F1 _ (by omega) | exact F2 _ (by omega) | exact F3 _ (by omega) | exact F4 _ (by omega) | exact P0 _ _ (by omega) (by omega) | exact P1 _ _ (by omega) (by omega) | exact P2 _ _ (by omega) (by omega))) (k := ?_)
      refine r_istore hm rfl (k := ?_)
      refine r_aload_n hm rfl (k := ?_)
      refine r_iload_n hm rfl (k := ?_)
      refine r_putI (hm := hm) (hf := rfl) (hd := rfl) (hs := (by first | assumption | exact (g1.1 _).trans rfl | exact I1 _ (by omega) | exact I2 _ (by omega) | exact I3 _ (by omega) | exact I4 _ (by omega))) (hfin := Or.inl rfl) (hz := fun q9 => absurd q9 (by decide)) (k := ?_)
      refine r_aload_n hm rfl (k := ?_)
      refine r_iconst hm rfl (k := ?_)
      refine r_putI (hm := hm) (hf := rfl) (hd := rfl) (hs := (by first | assumption | exact (g1.1 _).trans rfl | exact I1 _ (by omega) | exact I2 _ (by omega) | exact I3 _ (by omega) | exact I4 _ (by omega))) (hfin := Or.inl rfl) (hz := fun _ => by omega) (k := ?_)
      refine r_iload hm rfl (k := ?_)
      refine r_ireturn hm rfl rfl (by rfl) (Nat.le_of_ble_eq_true rfl) (Nat.le_of_ble_eq_true rfl) ?_
      unfold oMark aMark
      rw [if_pos (by omega), if_neg (by omega), if_neg (by omega), Int.toNat_natCast]
      refine ⟨?_, fun a9 k9 e9 => by rw [putI_ne (by omega), putI_ne (by omega)], rfl⟩
      exact I.mut ⟨g.1, g.2⟩ (fun a9 k9 e9 => rfl) (fun a9 k9 e9 => by rw [putI_ne (by omega), putI_ne (by omega)]) ((RepC_fd hR (f := 3) (v := m) (by omega) (show q < S.1.1 by omega) (fun z => by omega)).fr (fun _ => rfl) (fun a9 k9 e1 e2 => putI_ne (by omega))) (by rw [putI_ne (by omega), putI_ne (by omega)]; exact hG) putI_eq
    · refine r_iload_n hm rfl (k := ?_)
      refine r_calls (j2 := 26) hm rfl rfl rfl rfl rfl rfl (Nat.le_of_ble_eq_true rfl) (Nat.le_of_ble_eq_true rfl) rfl ⟨Nat.le_of_ble_eq_true rfl, Nat.le_of_ble_eq_true rfl, Nat.le_of_ble_eq_true rfl, Nat.le_of_ble_eq_true rfl, Nat.le_of_ble_eq_true rfl⟩ rfl (c_isMark) (fun v9 h9 p9 => ?_)
      obtain ⟨e1, e2⟩ := p9
      subst e2
      replace e1 := e1.symm
      subst e1
      obtain ⟨b8, eb8, hb8⟩ := ite01 (p := 0 ≤ m ∧ m ≤ 99)
      rw [eb8]
      change RN 25 24 _ _ _ 0 0 _
      dsimp only [Option.toList, List.cons_append, List.nil_append]
      refine r_if_ne (t := 31) hm rfl rfl (fun c24 => ?_) (fun c24 => ?_)
      · refine r_aload_n hm rfl (k := ?_)
        refine r_getR (hm := hm) (hf := rfl) (hd := rfl) (hs := (by first | assumption | exact (g1.1 _).trans rfl | exact I1 _ (by omega) | exact I2 _ (by omega) | exact I3 _ (by omega) | exact I4 _ (by omega))) (hv := (by first | assumption | exact g1.2 _ _ _ rfl | exact I0 _ (by omega) | exact J0 _ (by omega) | exact J1 _ (by omega) | exact J2 _ (by omega) | exact F0 _ (by omega) | exact F1 _ (by omega) | exact F2 _ (by omega) | exact F3 _ (by omega) | exact F4 _ (by omega) | exact P0 _ _ (by omega) (by omega) | exact P1 _ _ (by omega) (by omega) | exact P2 _ _ (by omega) (by omega))) (k := ?_)
        refine r_getR (hm := hm) (hf := rfl) (hd := rfl) (hs := (by first | assumption | exact (g1.1 _).trans rfl | exact I1 _ (by omega) | exact I2 _ (by omega) | exact I3 _ (by omega) | exact I4 _ (by omega))) (hv := (by first | assumption | exact g1.2 _ _ _ rfl | exact I0 _ (by omega) | exact J0 _ (by omega) | exact J1 _ (by omega) | exact J2 _ (by omega) | exact F0 _ (by omega) | exact F1 _ (by omega) | exact F2 _ (by omega) | exact F3 _ (by omega) | exact F4 _ (by omega) | exact P0 _ _ (by omega) (by omega) | exact P1 _ _ (by omega) (by omega) | exact P2 _ _ (by omega) (by omega))) (k := ?_)
        refine r_iload_n hm rfl (k := ?_)
        refine r_aald (hm := hm) (hf := rfl) (hs := (by first | assumption | exact (g1.1 _).trans rfl | exact I1 _ (by omega) | exact I2 _ (by omega) | exact I3 _ (by omega) | exact I4 _ (by omega))) (hkd := by decide) (hi := rfl) (hn := (by omega)) (hv := (by first | assumption | exact g1.2 _ _ _ rfl | exact I0 _ (by omega) | exact J0 _ (by omega) | exact J1 _ (by omega) | exact J2 _ (by omega) | exact F0 _ (by omega) | exact F1 _ (by omega) | exact F2 _ (by omega) | exact F3 _ (by omega) | exact F4 _ (by omega) | exact P0 _ _ (by omega) (by omega) | exact P1 _ _ (by omega) (by omega) | exact P2 _ _ (by omega) (by omega))) (k := ?_)
        refine r_astore_n hm rfl (k := ?_)
        refine r_aload_n hm rfl (k := ?_)
        refine r_getI (hm := hm) (hf := rfl) (hd := rfl) (hs := (by first | assumption | exact (g1.1 _).trans rfl | exact I1 _ (by omega) | exact I2 _ (by omega) | exact I3 _ (by omega) | exact I4 _ (by omega))) (hv := (by first | assumption | exact g1.2 _ _ _ rfl | exact I0 _ (by omega) | exact J0 _ (by omega) | exact J1 _ (by omega) | exact J2 _ (by omega) | exact F0 _ (by omega) | exact F1 _ (by omega) | exact F2 _ (by omega) | exact F3 _ (by omega) | exact F4 _ (by omega) | exact P0 _ _ (by omega) (by omega) | exact P1 _ _ (by omega) (by omega) | exact P2 _ _ (by omega) (by omega))) (k := ?_)
        refine r_istore hm rfl (k := ?_)
        refine r_aload_n hm rfl (k := ?_)
        refine r_iload_n hm rfl (k := ?_)
        refine r_putI (hm := hm) (hf := rfl) (hd := rfl) (hs := (by first | assumption | exact (g1.1 _).trans rfl | exact I1 _ (by omega) | exact I2 _ (by omega) | exact I3 _ (by omega) | exact I4 _ (by omega))) (hfin := Or.inl rfl) (hz := fun q9 => absurd q9 (by decide)) (k := ?_)
        refine r_aload_n hm rfl (k := ?_)
        refine r_iconst hm rfl (k := ?_)
        refine r_putI (hm := hm) (hf := rfl) (hd := rfl) (hs := (by first | assumption | exact (g1.1 _).trans rfl | exact I1 _ (by omega) | exact I2 _ (by omega) | exact I3 _ (by omega) | exact I4 _ (by omega))) (hfin := Or.inl rfl) (hz := fun _ => by omega) (k := ?_)
        refine r_iload hm rfl (k := ?_)
        refine r_ireturn hm rfl rfl (by rfl) (Nat.le_of_ble_eq_true rfl) (Nat.le_of_ble_eq_true rfl) ?_
        unfold oMark aMark
        rw [if_pos (by omega), if_neg (by omega), if_neg (by omega), Int.toNat_natCast]
        refine ⟨?_, fun a9 k9 e9 => by rw [putI_ne (by omega), putI_ne (by omega)], rfl⟩
        exact I.mut ⟨g.1, g.2⟩ (fun a9 k9 e9 => rfl) (fun a9 k9 e9 => by rw [putI_ne (by omega), putI_ne (by omega)]) ((RepC_fd hR (f := 3) (v := m) (by omega) (show q < S.1.1 by omega) (fun z => by omega)).fr (fun _ => rfl) (fun a9 k9 e1 e2 => putI_ne (by omega))) (by rw [putI_ne (by omega), putI_ne (by omega)]; exact hG) putI_eq
      · refine r_sipush hm rfl (k := ?_)
        refine r_ireturn hm rfl rfl (by rfl) (Nat.le_of_ble_eq_true rfl) (Nat.le_of_ble_eq_true rfl) ?_
        unfold oMark aMark
        rw [if_neg (by omega), if_neg (by omega), if_pos (by omega)]
        exact ⟨I, FxC.refl, rfl⟩
  · refine r_sipush hm rfl (k := ?_)
    refine r_ireturn hm rfl rfl (by rfl) (Nat.le_of_ble_eq_true rfl) (Nat.le_of_ble_eq_true rfl) ?_
    unfold oMark aMark
    rw [if_neg (by omega), if_pos (by omega)]
    exact ⟨I, FxC.refl, rfl⟩
set_option maxRecDepth 8000 in
theorem c_drop {L : Nat} {h : Hp} {S : St} (I : InvC L h S) (ok : okS S) {i : Int} : RN 30 0 [some (.inr (.inr (some (28)))), some (.inl i), none] [] h 0 0 (fun v h2 => InvC L h2 (oDrop S i) ∧ FxC h h2 ∧ v = some (.inl (aDrop S i))) := by
  have hm : mrec 30 = some nM30 := rfl
  obtain ⟨g, C, hR, hV, hK, hG, hSt, hL, hB, hFl⟩ := id I
  have hok := ok.1
  have ht : isT 29 := Or.inl rfl
  obtain ⟨T1, T2, T3, T4, T5, T6, T7⟩ := g.tx ht
  obtain ⟨I0, I1, I2, I3, I4, J0, J1, J2, F0, F1, F2, F3, F4, P0, P1, P2⟩ := hR.use g ht
  obtain ⟨R1, R2, R3, R4, R5, R6, R7⟩ := id hR
  have n60 := hok.1
  have g1 := g
  refine r_aload_n hm rfl (k := ?_)
  refine r_getR (hm := hm) (hf := rfl) (hd := rfl) (hs := (by first | assumption | exact (g1.1 _).trans rfl | exact I1 _ (by omega) | exact I2 _ (by omega) | exact I3 _ (by omega) | exact I4 _ (by omega))) (hv := (by first | exact putI_eq | exact (putI_ne (by omega)).trans (by first | exact putI_eq | exact (putI_ne (by omega)).trans (by first | first | assumption | exact g1.2 _ _ _ rfl | exact I0 _ (by omega) | exact J0 _ (by omega) | exact J1 _ (by omega) | exact J2 _ (by omega) | exact F0 _ (by omega) | exact F1 _ (by omega) | exact F2 _ (by omega) | exact F3 _ (by omega) | exact F4 _ (by omega) | exact P0 _ _ (by omega) (by omega) | exact P1 _ _ (by omega) (by omega) | exact P2 _ _ (by omega) (by omega)) | first | assumption | exact g1.2 _ _ _ rfl | exact I0 _ (by omega) | exact J0 _ (by omega) | exact J1 _ (by omega) | exact J2 _ (by omega) | exact F0 _ (by omega) | exact F1 _ (by omega) | exact F2 _ (by omega) | exact F3 _ (by omega) | exact F4 _ (by omega) | exact P0 _ _ (by omega) (by omega) | exact P1 _ _ (by omega) (by omega) | exact P2 _ _ (by omega) (by omega)) | first | assumption | exact g1.2 _ _ _ rfl | exact I0 _ (by omega) | exact J0 _ (by omega) | exact J1 _ (by omega) | exact J2 _ (by omega) | exact F0 _ (by omega) | exact F1 _ (by omega) | exact F2 _ (by omega) | exact F3 _ (by omega) | exact F4 _ (by omega) | exact P0 _ _ (by omega) (by omega) | exact P1 _ _ (by omega) (by omega) | exact P2 _ _ (by omega) (by omega))) (k := ?_)
  refine r_iload_n hm rfl (k := ?_)
  refine r_callv (j2 := 22) hm rfl rfl rfl rfl rfl rfl (by first | assumption | exact (g1.1 _).trans rfl | exact I1 _ (by omega) | exact I2 _ (by omega) | exact I3 _ (by omega) | exact I4 _ (by omega)) (Nat.le_of_ble_eq_true rfl) (Nat.le_of_ble_eq_true rfl) rfl ⟨Nat.le_of_ble_eq_true rfl, Nat.le_of_ble_eq_true rfl, Nat.le_of_ble_eq_true rfl, Nat.le_of_ble_eq_true rfl, Nat.le_of_ble_eq_true rfl⟩ rfl (c_has g ht hR) (fun v9 h9 p9 => ?_)
  obtain ⟨e1, e2⟩ := p9
  subst e2
  replace e1 := e1.symm
  subst e1
  obtain ⟨b9, eb9, hb9⟩ := ite01 (p := 0 ≤ i ∧ i < (S.1.1 : Int))
  rw [eb9]
  change RN 30 8 _ _ _ 0 0 _
  dsimp only [Option.toList, List.cons_append, List.nil_append]
  refine r_if_ne (t := 15) hm rfl rfl (fun c8 => ?_) (fun c8 => ?_)
  · obtain ⟨q, rfl⟩ := Int.eq_ofNat_of_zero_le (show 0 ≤ i by omega)
    have rq := itm_rng (hR.2 : RepQ h 29 S.1) (i := q) (by omega)
    have hkq := hok.2.1 q (by omega)
    unfold okIt at hkq
    refine r_aload_n hm rfl (k := ?_)
    refine r_getR (hm := hm) (hf := rfl) (hd := rfl) (hs := (by first | assumption | exact (g1.1 _).trans rfl | exact I1 _ (by omega) | exact I2 _ (by omega) | exact I3 _ (by omega) | exact I4 _ (by omega))) (hv := (by first | exact putI_eq | exact (putI_ne (by omega)).trans (by first | exact putI_eq | exact (putI_ne (by omega)).trans (by first | first | assumption | exact g1.2 _ _ _ rfl | exact I0 _ (by omega) | exact J0 _ (by omega) | exact J1 _ (by omega) | exact J2 _ (by omega) | exact F0 _ (by omega) | exact F1 _ (by omega) | exact F2 _ (by omega) | exact F3 _ (by omega) | exact F4 _ (by omega) | exact P0 _ _ (by omega) (by omega) | exact P1 _ _ (by omega) (by omega) | exact P2 _ _ (by omega) (by omega)) | first | assumption | exact g1.2 _ _ _ rfl | exact I0 _ (by omega) | exact J0 _ (by omega) | exact J1 _ (by omega) | exact J2 _ (by omega) | exact F0 _ (by omega) | exact F1 _ (by omega) | exact F2 _ (by omega) | exact F3 _ (by omega) | exact F4 _ (by omega) | exact P0 _ _ (by omega) (by omega) | exact P1 _ _ (by omega) (by omega) | exact P2 _ _ (by omega) (by omega)) | first | assumption | exact g1.2 _ _ _ rfl | exact I0 _ (by omega) | exact J0 _ (by omega) | exact J1 _ (by omega) | exact J2 _ (by omega) | exact F0 _ (by omega) | exact F1 _ (by omega) | exact F2 _ (by omega) | exact F3 _ (by omega) | exact F4 _ (by omega) | exact P0 _ _ (by omega) (by omega) | exact P1 _ _ (by omega) (by omega) | exact P2 _ _ (by omega) (by omega))) (k := ?_)
    refine r_getR (hm := hm) (hf := rfl) (hd := rfl) (hs := (by first | assumption | exact (g1.1 _).trans rfl | exact I1 _ (by omega) | exact I2 _ (by omega) | exact I3 _ (by omega) | exact I4 _ (by omega))) (hv := (by first | exact putI_eq | exact (putI_ne (by omega)).trans (by first | exact putI_eq | exact (putI_ne (by omega)).trans (by first | first | assumption | exact g1.2 _ _ _ rfl | exact I0 _ (by omega) | exact J0 _ (by omega) | exact J1 _ (by omega) | exact J2 _ (by omega) | exact F0 _ (by omega) | exact F1 _ (by omega) | exact F2 _ (by omega) | exact F3 _ (by omega) | exact F4 _ (by omega) | exact P0 _ _ (by omega) (by omega) | exact P1 _ _ (by omega) (by omega) | exact P2 _ _ (by omega) (by omega)) | first | assumption | exact g1.2 _ _ _ rfl | exact I0 _ (by omega) | exact J0 _ (by omega) | exact J1 _ (by omega) | exact J2 _ (by omega) | exact F0 _ (by omega) | exact F1 _ (by omega) | exact F2 _ (by omega) | exact F3 _ (by omega) | exact F4 _ (by omega) | exact P0 _ _ (by omega) (by omega) | exact P1 _ _ (by omega) (by omega) | exact P2 _ _ (by omega) (by omega)) | first | assumption | exact g1.2 _ _ _ rfl | exact I0 _ (by omega) | exact J0 _ (by omega) | exact J1 _ (by omega) | exact J2 _ (by omega) | exact F0 _ (by omega) | exact F1 _ (by omega) | exact F2 _ (by omega) | exact F3 _ (by omega) | exact F4 _ (by omega) | exact P0 _ _ (by omega) (by omega) | exact P1 _ _ (by omega) (by omega) | exact P2 _ _ (by omega) (by omega))) (k := ?_)
    refine r_iload_n hm rfl (k := ?_)
    refine r_aald (hm := hm) (hf := rfl) (hs := (by first | assumption | exact (g1.1 _).trans rfl | exact I1 _ (by omega) | exact I2 _ (by omega) | exact I3 _ (by omega) | exact I4 _ (by omega))) (hkd := by decide) (hi := rfl) (hn := (by omega)) (hv := (by first | exact putI_eq | exact (putI_ne (by omega)).trans (by first | exact putI_eq | exact (putI_ne (by omega)).trans (by first | first | assumption | exact g1.2 _ _ _ rfl | exact I0 _ (by omega) | exact J0 _ (by omega) | exact J1 _ (by omega) | exact J2 _ (by omega) | exact F0 _ (by omega) | exact F1 _ (by omega) | exact F2 _ (by omega) | exact F3 _ (by omega) | exact F4 _ (by omega) | exact P0 _ _ (by omega) (by omega) | exact P1 _ _ (by omega) (by omega) | exact P2 _ _ (by omega) (by omega)) | first | assumption | exact g1.2 _ _ _ rfl | exact I0 _ (by omega) | exact J0 _ (by omega) | exact J1 _ (by omega) | exact J2 _ (by omega) | exact F0 _ (by omega) | exact F1 _ (by omega) | exact F2 _ (by omega) | exact F3 _ (by omega) | exact F4 _ (by omega) | exact P0 _ _ (by omega) (by omega) | exact P1 _ _ (by omega) (by omega) | exact P2 _ _ (by omega) (by omega)) | first | assumption | exact g1.2 _ _ _ rfl | exact I0 _ (by omega) | exact J0 _ (by omega) | exact J1 _ (by omega) | exact J2 _ (by omega) | exact F0 _ (by omega) | exact F1 _ (by omega) | exact F2 _ (by omega) | exact F3 _ (by omega) | exact F4 _ (by omega) | exact P0 _ _ (by omega) (by omega) | exact P1 _ _ (by omega) (by omega) | exact P2 _ _ (by omega) (by omega))) (k := ?_)
    refine r_astore_n hm rfl (k := ?_)
    refine r_aload_n hm rfl (k := ?_)
    refine r_getI (hm := hm) (hf := rfl) (hd := rfl) (hs := (by first | assumption | exact (g1.1 _).trans rfl | exact I1 _ (by omega) | exact I2 _ (by omega) | exact I3 _ (by omega) | exact I4 _ (by omega))) (hv := (by first | exact putI_eq | exact (putI_ne (by omega)).trans (by first | exact putI_eq | exact (putI_ne (by omega)).trans (by first | first | assumption | exact g1.2 _ _ _ rfl | exact I0 _ (by omega) | exact J0 _ (by omega) | exact J1 _ (by omega) | exact J2 _ (by omega) | exact F0 _ (by omega) | exact F1 _ (by omega) | exact F2 _ (by omega) | exact F3 _ (by omega) | exact F4 _ (by omega) | exact P0 _ _ (by omega) (by omega) | exact P1 _ _ (by omega) (by omega) | exact P2 _ _ (by omega) (by omega)) | first | assumption | exact g1.2 _ _ _ rfl | exact I0 _ (by omega) | exact J0 _ (by omega) | exact J1 _ (by omega) | exact J2 _ (by omega) | exact F0 _ (by omega) | exact F1 _ (by omega) | exact F2 _ (by omega) | exact F3 _ (by omega) | exact F4 _ (by omega) | exact P0 _ _ (by omega) (by omega) | exact P1 _ _ (by omega) (by omega) | exact P2 _ _ (by omega) (by omega)) | first | assumption | exact g1.2 _ _ _ rfl | exact I0 _ (by omega) | exact J0 _ (by omega) | exact J1 _ (by omega) | exact J2 _ (by omega) | exact F0 _ (by omega) | exact F1 _ (by omega) | exact F2 _ (by omega) | exact F3 _ (by omega) | exact F4 _ (by omega) | exact P0 _ _ (by omega) (by omega) | exact P1 _ _ (by omega) (by omega) | exact P2 _ _ (by omega) (by omega))) (k := ?_)
    refine r_iconst hm rfl (k := ?_)
    refine r_icmp_ne (t := 40) hm rfl rfl (fun c30 => ?_) (fun c30 => ?_)
    · refine r_sipush hm rfl (k := ?_)
      refine r_ireturn hm rfl rfl (by rfl) (Nat.le_of_ble_eq_true rfl) (Nat.le_of_ble_eq_true rfl) ?_
      unfold oDrop aDrop
      rw [if_neg (by rw [Int.toNat_natCast]; omega), if_neg (by omega), if_pos (by rw [Int.toNat_natCast]; omega)]
      exact ⟨I, FxC.refl, rfl⟩
    · refine r_aload_n hm rfl (k := ?_)
      refine r_getI (hm := hm) (hf := rfl) (hd := rfl) (hs := (by first | assumption | exact (g1.1 _).trans rfl | exact I1 _ (by omega) | exact I2 _ (by omega) | exact I3 _ (by omega) | exact I4 _ (by omega))) (hv := (by first | exact putI_eq | exact (putI_ne (by omega)).trans (by first | exact putI_eq | exact (putI_ne (by omega)).trans (by first | first | assumption | exact g1.2 _ _ _ rfl | exact I0 _ (by omega) | exact J0 _ (by omega) | exact J1 _ (by omega) | exact J2 _ (by omega) | exact F0 _ (by omega) | exact F1 _ (by omega) | exact F2 _ (by omega) | exact F3 _ (by omega) | exact F4 _ (by omega) | exact P0 _ _ (by omega) (by omega) | exact P1 _ _ (by omega) (by omega) | exact P2 _ _ (by omega) (by omega)) | first | assumption | exact g1.2 _ _ _ rfl | exact I0 _ (by omega) | exact J0 _ (by omega) | exact J1 _ (by omega) | exact J2 _ (by omega) | exact F0 _ (by omega) | exact F1 _ (by omega) | exact F2 _ (by omega) | exact F3 _ (by omega) | exact F4 _ (by omega) | exact P0 _ _ (by omega) (by omega) | exact P1 _ _ (by omega) (by omega) | exact P2 _ _ (by omega) (by omega)) | first | assumption | exact g1.2 _ _ _ rfl | exact I0 _ (by omega) | exact J0 _ (by omega) | exact J1 _ (by omega) | exact J2 _ (by omega) | exact F0 _ (by omega) | exact F1 _ (by omega) | exact F2 _ (by omega) | exact F3 _ (by omega) | exact F4 _ (by omega) | exact P0 _ _ (by omega) (by omega) | exact P1 _ _ (by omega) (by omega) | exact P2 _ _ (by omega) (by omega))) (k := ?_)
      refine r_if_ne (t := 44) hm rfl rfl (fun c37 => ?_) (fun c37 => ?_)
      · refine r_aload_n hm rfl (k := ?_)
        refine r_dup hm rfl (k := ?_)
        refine r_getI (hm := hm) (hf := rfl) (hd := rfl) (hs := (by first | assumption | exact (g1.1 _).trans rfl | exact I1 _ (by omega) | exact I2 _ (by omega) | exact I3 _ (by omega) | exact I4 _ (by omega))) (hv := (by first | exact putI_eq | exact (putI_ne (by omega)).trans (by first | exact putI_eq | exact (putI_ne (by omega)).trans (by first | first | assumption | exact g1.2 _ _ _ rfl | exact I0 _ (by omega) | exact J0 _ (by omega) | exact J1 _ (by omega) | exact J2 _ (by omega) | exact F0 _ (by omega) | exact F1 _ (by omega) | exact F2 _ (by omega) | exact F3 _ (by omega) | exact F4 _ (by omega) | exact P0 _ _ (by omega) (by omega) | exact P1 _ _ (by omega) (by omega) | exact P2 _ _ (by omega) (by omega)) | first | assumption | exact g1.2 _ _ _ rfl | exact I0 _ (by omega) | exact J0 _ (by omega) | exact J1 _ (by omega) | exact J2 _ (by omega) | exact F0 _ (by omega) | exact F1 _ (by omega) | exact F2 _ (by omega) | exact F3 _ (by omega) | exact F4 _ (by omega) | exact P0 _ _ (by omega) (by omega) | exact P1 _ _ (by omega) (by omega) | exact P2 _ _ (by omega) (by omega)) | first | assumption | exact g1.2 _ _ _ rfl | exact I0 _ (by omega) | exact J0 _ (by omega) | exact J1 _ (by omega) | exact J2 _ (by omega) | exact F0 _ (by omega) | exact F1 _ (by omega) | exact F2 _ (by omega) | exact F3 _ (by omega) | exact F4 _ (by omega) | exact P0 _ _ (by omega) (by omega) | exact P1 _ _ (by omega) (by omega) | exact P2 _ _ (by omega) (by omega))) (k := ?_)
        refine r_iconst hm rfl (k := ?_)
        refine r_isub hm rfl (hr := (by omega)) (k := ?_)
        refine r_putI (hm := hm) (hf := rfl) (hd := rfl) (hs := (by first | assumption | exact (g1.1 _).trans rfl | exact I1 _ (by omega) | exact I2 _ (by omega) | exact I3 _ (by omega) | exact I4 _ (by omega))) (hfin := Or.inl rfl) (hz := fun q9 => absurd q9 (by decide)) (k := ?_)
        refine r_aload_n hm rfl (k := ?_)
        refine r_iconst hm rfl (k := ?_)
        refine r_putI (hm := hm) (hf := rfl) (hd := rfl) (hs := (by first | assumption | exact (g1.1 _).trans rfl | exact I1 _ (by omega) | exact I2 _ (by omega) | exact I3 _ (by omega) | exact I4 _ (by omega))) (hfin := Or.inl rfl) (hz := fun _ => by omega) (k := ?_)
        refine r_aload_n hm rfl (k := ?_)
        refine r_getI (hm := hm) (hf := rfl) (hd := rfl) (hs := (by first | assumption | exact (g1.1 _).trans rfl | exact I1 _ (by omega) | exact I2 _ (by omega) | exact I3 _ (by omega) | exact I4 _ (by omega))) (hv := (by first | exact putI_eq | exact (putI_ne (by omega)).trans (by first | exact putI_eq | exact (putI_ne (by omega)).trans (by first | first | assumption | exact g1.2 _ _ _ rfl | exact I0 _ (by omega) | exact J0 _ (by omega) | exact J1 _ (by omega) | exact J2 _ (by omega) | exact F0 _ (by omega) | exact F1 _ (by omega) | exact F2 _ (by omega) | exact F3 _ (by omega) | exact F4 _ (by omega) | exact P0 _ _ (by omega) (by omega) | exact P1 _ _ (by omega) (by omega) | exact P2 _ _ (by omega) (by omega)) | first | assumption | exact g1.2 _ _ _ rfl | exact I0 _ (by omega) | exact J0 _ (by omega) | exact J1 _ (by omega) | exact J2 _ (by omega) | exact F0 _ (by omega) | exact F1 _ (by omega) | exact F2 _ (by omega) | exact F3 _ (by omega) | exact F4 _ (by omega) | exact P0 _ _ (by omega) (by omega) | exact P1 _ _ (by omega) (by omega) | exact P2 _ _ (by omega) (by omega)) | first | assumption | exact g1.2 _ _ _ rfl | exact I0 _ (by omega) | exact J0 _ (by omega) | exact J1 _ (by omega) | exact J2 _ (by omega) | exact F0 _ (by omega) | exact F1 _ (by omega) | exact F2 _ (by omega) | exact F3 _ (by omega) | exact F4 _ (by omega) | exact P0 _ _ (by omega) (by omega) | exact P1 _ _ (by omega) (by omega) | exact P2 _ _ (by omega) (by omega))) (k := ?_)
        refine r_ireturn hm rfl rfl (by rfl) (Nat.le_of_ble_eq_true rfl) (Nat.le_of_ble_eq_true rfl) ?_
        unfold oDrop aDrop
        rw [if_pos (by rw [Int.toNat_natCast]; omega), if_neg (by omega), if_neg (by rw [Int.toNat_natCast]; omega), Int.toNat_natCast]
        refine ⟨?_, fun a9 k9 e9 => by rw [putI_ne (by omega), putI_ne (by omega)], rfl⟩
        exact I.mut ⟨g.1, g.2⟩ (fun a9 k9 e9 => rfl) (fun a9 k9 e9 => by rw [putI_ne (by omega), putI_ne (by omega)]) ((RepC_fd hR (f := 4) (v := S.1.2.1 4 q - 1) (by omega) (show q < S.1.1 by omega) (fun z => by omega)).fr (fun _ => rfl) (fun a9 k9 e1 e2 => putI_ne (by omega))) (by rw [putI_ne (by omega), putI_ne (by omega)]; exact hG) putI_eq
      · refine r_sipush hm rfl (k := ?_)
        refine r_ireturn hm rfl rfl (by rfl) (Nat.le_of_ble_eq_true rfl) (Nat.le_of_ble_eq_true rfl) ?_
        unfold oDrop aDrop
        rw [if_neg (by rw [Int.toNat_natCast]; omega), if_neg (by omega), if_pos (by rw [Int.toNat_natCast]; omega)]
        exact ⟨I, FxC.refl, rfl⟩
  · refine r_sipush hm rfl (k := ?_)
    refine r_ireturn hm rfl rfl (by rfl) (Nat.le_of_ble_eq_true rfl) (Nat.le_of_ble_eq_true rfl) ?_
    unfold oDrop aDrop
    rw [if_neg (by omega), if_pos (by omega)]
    exact ⟨I, FxC.refl, rfl⟩
set_option maxRecDepth 8000 in
theorem c_piece {L : Nat} {h : Hp} {S : St} (I : InvC L h S) (ok : okS S) {i kd a b : Int} : RN 27 0 [some (.inr (.inr (some (28)))), some (.inl i), some (.inl kd), some (.inl a), some (.inl b), none] [] h 0 0 (fun v h2 => InvC L h2 (oPiece S i kd a b) ∧ FxC h h2 ∧ v = some (.inl (aPiece S i kd a b))) := by
  have hm : mrec 27 = some nM27 := rfl
  obtain ⟨g, C, hR, hV, hK, hG, hSt, hL, hB, hFl⟩ := id I
  have hok := ok.1
  have ht : isT 29 := Or.inl rfl
  obtain ⟨T1, T2, T3, T4, T5, T6, T7⟩ := g.tx ht
  obtain ⟨I0, I1, I2, I3, I4, J0, J1, J2, F0, F1, F2, F3, F4, P0, P1, P2⟩ := hR.use g ht
  obtain ⟨R1, R2, R3, R4, R5, R6, R7⟩ := id hR
  have n60 := hok.1
  have g1 := g
  refine r_aload_n hm rfl (k := ?_)
  refine r_getR (hm := hm) (hf := rfl) (hd := rfl) (hs := (by first | assumption | exact (g1.1 _).trans rfl | exact I1 _ (by omega) | exact I2 _ (by omega) | exact I3 _ (by omega) | exact I4 _ (by omega))) (hv := (by first | exact putI_eq | exact (putI_ne (by omega)).trans (by first | first | assumption | exact g1.2 _ _ _ rfl | exact I0 _ (by omega) | exact J0 _ (by omega) | exact J1 _ (by omega) | exact J2 _ (by omega) | exact F0 _ (by omega) | exact F1 _ (by omega) | exact F2 _ (by omega) | exact F3 _ (by omega) | exact F4 _ (by omega) | exact P0 _ _ (by omega) (by omega) | exact P1 _ _ (by omega) (by omega) | exact P2 _ _ (by omega) (by omega) | exact e7) | first | assumption | exact g1.2 _ _ _ rfl | exact I0 _ (by omega) | exact J0 _ (by omega) | exact J1 _ (by omega) | exact J2 _ (by omega) | exact F0 _ (by omega) | exact F1 _ (by omega) | exact F2 _ (by omega) | exact F3 _ (by omega) | exact F4 _ (by omega) | exact P0 _ _ (by omega) (by omega) | exact P1 _ _ (by omega) (by omega) | exact P2 _ _ (by omega) (by omega) | exact e7)) (k := ?_)
  refine r_iload_n hm rfl (k := ?_)
  refine r_callv (j2 := 22) hm rfl rfl rfl rfl rfl rfl (by first | assumption | exact (g1.1 _).trans rfl | exact I1 _ (by omega) | exact I2 _ (by omega) | exact I3 _ (by omega) | exact I4 _ (by omega)) (Nat.le_of_ble_eq_true rfl) (Nat.le_of_ble_eq_true rfl) rfl ⟨Nat.le_of_ble_eq_true rfl, Nat.le_of_ble_eq_true rfl, Nat.le_of_ble_eq_true rfl, Nat.le_of_ble_eq_true rfl, Nat.le_of_ble_eq_true rfl⟩ rfl (c_has g ht hR) (fun v9 h9 p9 => ?_)
  obtain ⟨e1, e2⟩ := p9
  subst e2
  replace e1 := e1.symm
  subst e1
  obtain ⟨b9, eb9, hb9⟩ := ite01 (p := 0 ≤ i ∧ i < (S.1.1 : Int))
  rw [eb9]
  change RN 27 8 _ _ _ 0 0 _
  dsimp only [Option.toList, List.cons_append, List.nil_append]
  refine r_if_ne (t := 15) hm rfl rfl (fun c8 => ?_) (fun c8 => ?_)
  · obtain ⟨q, rfl⟩ := Int.eq_ofNat_of_zero_le (show 0 ≤ i by omega)
    have rq := itm_rng (hR.2 : RepQ h 29 S.1) (i := q) (by omega)
    have hkq := hok.2.1 q (by omega)
    unfold okIt at hkq
    refine r_iload_n hm rfl (k := ?_)
    refine r_iload_n hm rfl (k := ?_)
    refine r_iload hm rfl (k := ?_)
    refine r_calls (j2 := 28) hm rfl rfl rfl rfl rfl rfl (Nat.le_of_ble_eq_true rfl) (Nat.le_of_ble_eq_true rfl) rfl ⟨Nat.le_of_ble_eq_true rfl, Nat.le_of_ble_eq_true rfl, Nat.le_of_ble_eq_true rfl, Nat.le_of_ble_eq_true rfl, Nat.le_of_ble_eq_true rfl⟩ rfl (c_isPiece) (fun v9 h9 p9 => ?_)
    obtain ⟨e1, e2⟩ := p9
    subst e2
    replace e1 := e1.symm
    subst e1
    obtain ⟨b8, eb8, hb8⟩ := ite01 (p := (kd = 0 ∧ 1 ≤ a ∧ a ≤ 20) ∨ (kd = 1 ∧ 0 ≤ a ∧ a ≤ 99 ∧ 0 ≤ b ∧ b ≤ 2) ∨ (kd = 2 ∧ 1 ≤ a ∧ a ≤ 5))
    rw [eb8]
    change RN 27 22 _ _ _ 0 0 _
    dsimp only [Option.toList, List.cons_append, List.nil_append]
    refine r_if_ne (t := 29) hm rfl rfl (fun c22 => ?_) (fun c22 => ?_)
    · have hcp : gdPc kd a b := by unfold gdPc; omega
      clear hb8 eb8
      refine r_aload_n hm rfl (k := ?_)
      refine r_getR (hm := hm) (hf := rfl) (hd := rfl) (hs := (by first | assumption | exact (g1.1 _).trans rfl | exact I1 _ (by omega) | exact I2 _ (by omega) | exact I3 _ (by omega) | exact I4 _ (by omega))) (hv := (by first | exact putI_eq | exact (putI_ne (by omega)).trans (by first | first | assumption | exact g1.2 _ _ _ rfl | exact I0 _ (by omega) | exact J0 _ (by omega) | exact J1 _ (by omega) | exact J2 _ (by omega) | exact F0 _ (by omega) | exact F1 _ (by omega) | exact F2 _ (by omega) | exact F3 _ (by omega) | exact F4 _ (by omega) | exact P0 _ _ (by omega) (by omega) | exact P1 _ _ (by omega) (by omega) | exact P2 _ _ (by omega) (by omega) | exact e7) | first | assumption | exact g1.2 _ _ _ rfl | exact I0 _ (by omega) | exact J0 _ (by omega) | exact J1 _ (by omega) | exact J2 _ (by omega) | exact F0 _ (by omega) | exact F1 _ (by omega) | exact F2 _ (by omega) | exact F3 _ (by omega) | exact F4 _ (by omega) | exact P0 _ _ (by omega) (by omega) | exact P1 _ _ (by omega) (by omega) | exact P2 _ _ (by omega) (by omega) | exact e7)) (k := ?_)
      refine r_getR (hm := hm) (hf := rfl) (hd := rfl) (hs := (by first | assumption | exact (g1.1 _).trans rfl | exact I1 _ (by omega) | exact I2 _ (by omega) | exact I3 _ (by omega) | exact I4 _ (by omega))) (hv := (by first | exact putI_eq | exact (putI_ne (by omega)).trans (by first | first | assumption | exact g1.2 _ _ _ rfl | exact I0 _ (by omega) | exact J0 _ (by omega) | exact J1 _ (by omega) | exact J2 _ (by omega) | exact F0 _ (by omega) | exact F1 _ (by omega) | exact F2 _ (by omega) | exact F3 _ (by omega) | exact F4 _ (by omega) | exact P0 _ _ (by omega) (by omega) | exact P1 _ _ (by omega) (by omega) | exact P2 _ _ (by omega) (by omega) | exact e7) | first | assumption | exact g1.2 _ _ _ rfl | exact I0 _ (by omega) | exact J0 _ (by omega) | exact J1 _ (by omega) | exact J2 _ (by omega) | exact F0 _ (by omega) | exact F1 _ (by omega) | exact F2 _ (by omega) | exact F3 _ (by omega) | exact F4 _ (by omega) | exact P0 _ _ (by omega) (by omega) | exact P1 _ _ (by omega) (by omega) | exact P2 _ _ (by omega) (by omega) | exact e7)) (k := ?_)
      refine r_iload_n hm rfl (k := ?_)
      refine r_aald (hm := hm) (hf := rfl) (hs := (by first | assumption | exact (g1.1 _).trans rfl | exact I1 _ (by omega) | exact I2 _ (by omega) | exact I3 _ (by omega) | exact I4 _ (by omega))) (hkd := by decide) (hi := rfl) (hn := (by omega)) (hv := (by first | exact putI_eq | exact (putI_ne (by omega)).trans (by first | first | assumption | exact g1.2 _ _ _ rfl | exact I0 _ (by omega) | exact J0 _ (by omega) | exact J1 _ (by omega) | exact J2 _ (by omega) | exact F0 _ (by omega) | exact F1 _ (by omega) | exact F2 _ (by omega) | exact F3 _ (by omega) | exact F4 _ (by omega) | exact P0 _ _ (by omega) (by omega) | exact P1 _ _ (by omega) (by omega) | exact P2 _ _ (by omega) (by omega) | exact e7) | first | assumption | exact g1.2 _ _ _ rfl | exact I0 _ (by omega) | exact J0 _ (by omega) | exact J1 _ (by omega) | exact J2 _ (by omega) | exact F0 _ (by omega) | exact F1 _ (by omega) | exact F2 _ (by omega) | exact F3 _ (by omega) | exact F4 _ (by omega) | exact P0 _ _ (by omega) (by omega) | exact P1 _ _ (by omega) (by omega) | exact P2 _ _ (by omega) (by omega) | exact e7)) (k := ?_)
      refine r_astore hm rfl (k := ?_)
      refine r_aload hm rfl (k := ?_)
      refine r_getI (hm := hm) (hf := rfl) (hd := rfl) (hs := (by first | assumption | exact (g1.1 _).trans rfl | exact I1 _ (by omega) | exact I2 _ (by omega) | exact I3 _ (by omega) | exact I4 _ (by omega))) (hv := (by first | exact putI_eq | exact (putI_ne (by omega)).trans (by first | first | assumption | exact g1.2 _ _ _ rfl | exact I0 _ (by omega) | exact J0 _ (by omega) | exact J1 _ (by omega) | exact J2 _ (by omega) | exact F0 _ (by omega) | exact F1 _ (by omega) | exact F2 _ (by omega) | exact F3 _ (by omega) | exact F4 _ (by omega) | exact P0 _ _ (by omega) (by omega) | exact P1 _ _ (by omega) (by omega) | exact P2 _ _ (by omega) (by omega) | exact e7) | first | assumption | exact g1.2 _ _ _ rfl | exact I0 _ (by omega) | exact J0 _ (by omega) | exact J1 _ (by omega) | exact J2 _ (by omega) | exact F0 _ (by omega) | exact F1 _ (by omega) | exact F2 _ (by omega) | exact F3 _ (by omega) | exact F4 _ (by omega) | exact P0 _ _ (by omega) (by omega) | exact P1 _ _ (by omega) (by omega) | exact P2 _ _ (by omega) (by omega) | exact e7)) (k := ?_)
      refine r_iconst hm rfl (k := ?_)
      refine r_icmp_eq (t := 53) hm rfl rfl (fun c46 => ?_) (fun c46 => ?_)
      · refine r_aload hm rfl (k := ?_)
        refine r_getI (hm := hm) (hf := rfl) (hd := rfl) (hs := (by first | assumption | exact (g1.1 _).trans rfl | exact I1 _ (by omega) | exact I2 _ (by omega) | exact I3 _ (by omega) | exact I4 _ (by omega))) (hv := (by first | exact putI_eq | exact (putI_ne (by omega)).trans (by first | first | assumption | exact g1.2 _ _ _ rfl | exact I0 _ (by omega) | exact J0 _ (by omega) | exact J1 _ (by omega) | exact J2 _ (by omega) | exact F0 _ (by omega) | exact F1 _ (by omega) | exact F2 _ (by omega) | exact F3 _ (by omega) | exact F4 _ (by omega) | exact P0 _ _ (by omega) (by omega) | exact P1 _ _ (by omega) (by omega) | exact P2 _ _ (by omega) (by omega) | exact e7) | first | assumption | exact g1.2 _ _ _ rfl | exact I0 _ (by omega) | exact J0 _ (by omega) | exact J1 _ (by omega) | exact J2 _ (by omega) | exact F0 _ (by omega) | exact F1 _ (by omega) | exact F2 _ (by omega) | exact F3 _ (by omega) | exact F4 _ (by omega) | exact P0 _ _ (by omega) (by omega) | exact P1 _ _ (by omega) (by omega) | exact P2 _ _ (by omega) (by omega) | exact e7)) (k := ?_)
        refine r_bipush hm rfl (k := ?_)
        refine r_icmp_lt (t := 67) hm rfl rfl (fun c60 => ?_) (fun c60 => ?_)
        · obtain ⟨n, en⟩ := Int.eq_ofNat_of_zero_le (show 0 ≤ S.1.2.1 4 q by omega)
          refine r_aload hm rfl (k := ?_)
          refine r_iload_n hm rfl (k := ?_)
          refine r_iload_n hm rfl (k := ?_)
          refine r_iload_n hm rfl (k := ?_)
          refine r_iconst hm rfl (k := ?_)
          refine r_icmp_ne (t := 81) hm rfl rfl (fun c73 => ?_) (fun c73 => ?_)
          · refine r_iconst hm rfl (k := ?_)
            refine r_callv (j2 := 29) hm rfl rfl rfl rfl rfl rfl (by first | assumption | exact (g1.1 _).trans rfl | exact I1 _ (by omega) | exact I2 _ (by omega) | exact I3 _ (by omega) | exact I4 _ (by omega)) (Nat.le_of_ble_eq_true rfl) (Nat.le_of_ble_eq_true rfl) rfl ⟨Nat.le_of_ble_eq_true rfl, Nat.le_of_ble_eq_true rfl, Nat.le_of_ble_eq_true rfl, Nat.le_of_ble_eq_true rfl, Nat.le_of_ble_eq_true rfl⟩ rfl (c_append (n := n) (I1 q (by omega)) (I2 q (by omega)) (I3 q (by omega)) (I4 q (by omega)) (J0 q (by omega)) (J1 q (by omega)) (J2 q (by omega)) ((F4 q (by omega)).trans en) (by omega) (by omega)) (fun v9 hP p9 => ?_)
            obtain ⟨e1, e2⟩ := p9
            subst e2
            have RP := RepC_pc (a := kd) (b := a) (c := 0) hR (show q < S.1.1 by omega) en rfl
            have SP : Sm (fun a k => 33 ≤ a ∧ a < 273) h hP := by rw [e1]; exact Sm.put (Sm.put (Sm.put (Sm.put Sm.refl (by omega)) (by omega)) (by omega)) (by omega)
            have e7 : hP.2.1 (itm h 29 q) 7 = (n : Int) + 1 := by rw [e1]; exact putI_eq
            rw [← e1] at RP
            clear e1
            have gP := SP.gg g
            replace g1 := gP
            replace I1 := fun i hi => (congrArg (fun z => z[itm h 29 i]?) SP.1).trans (I1 i hi)
            change RN 27 85 _ _ _ 0 0 _
            dsimp only [Option.toList, List.nil_append]
            refine r_aload_n hm rfl (k := ?_)
            refine r_iconst hm rfl (k := ?_)
            refine r_putI (hm := hm) (hf := rfl) (hd := rfl) (hs := (by first | assumption | exact (g1.1 _).trans rfl | exact I1 _ (by omega) | exact I2 _ (by omega) | exact I3 _ (by omega) | exact I4 _ (by omega))) (hfin := Or.inl rfl) (hz := fun _ => by omega) (k := ?_)
            refine r_aload hm rfl (k := ?_)
            refine r_getI (hm := hm) (hf := rfl) (hd := rfl) (hs := (by first | assumption | exact (g1.1 _).trans rfl | exact I1 _ (by omega) | exact I2 _ (by omega) | exact I3 _ (by omega) | exact I4 _ (by omega))) (hv := (by first | exact putI_eq | exact (putI_ne (by omega)).trans (by first | first | assumption | exact g1.2 _ _ _ rfl | exact I0 _ (by omega) | exact J0 _ (by omega) | exact J1 _ (by omega) | exact J2 _ (by omega) | exact F0 _ (by omega) | exact F1 _ (by omega) | exact F2 _ (by omega) | exact F3 _ (by omega) | exact F4 _ (by omega) | exact P0 _ _ (by omega) (by omega) | exact P1 _ _ (by omega) (by omega) | exact P2 _ _ (by omega) (by omega) | exact e7) | first | assumption | exact g1.2 _ _ _ rfl | exact I0 _ (by omega) | exact J0 _ (by omega) | exact J1 _ (by omega) | exact J2 _ (by omega) | exact F0 _ (by omega) | exact F1 _ (by omega) | exact F2 _ (by omega) | exact F3 _ (by omega) | exact F4 _ (by omega) | exact P0 _ _ (by omega) (by omega) | exact P1 _ _ (by omega) (by omega) | exact P2 _ _ (by omega) (by omega) | exact e7)) (k := ?_)
            refine r_ireturn hm rfl rfl (by rfl) (Nat.le_of_ble_eq_true rfl) (Nat.le_of_ble_eq_true rfl) ?_
            unfold gdPc at hcp
            have eb : (if kd = 1 then b else 0) = 0 := if_neg (by omega)
            have eO : oPiece S (q : Int) kd a b = wT S (pcT S.1 q kd a 0) := by
              unfold oPiece
              rw [if_pos ⟨by omega, hcp, c46, c60⟩, Int.toNat_natCast, eb]
            have eA : aPiece S (q : Int) kd a b = S.1.2.1 4 q + 1 := by
              unfold aPiece
              rw [if_neg (by omega), if_neg (fun z => z hcp), if_neg (fun z => z c46), if_neg (fun z => z c60), Int.toNat_natCast]
            rw [eO, eA]
            refine ⟨?_, fun a9 k9 e9 => by rw [putI_ne (by omega)]; exact SP.2.2 a9 k9 (by omega), by rw [en]⟩
            exact I.mut ⟨gP.1, gP.2⟩ (fun a9 k9 e9 => by show hP.2.2.1 a9 k9 = _; rw [SP.2.1]) (fun a9 k9 e9 => by rw [putI_ne (by omega)]; exact SP.2.2 a9 k9 (by omega)) (RP.fr (fun _ => rfl) (fun a9 k9 e1 e2 => putI_ne (by omega))) (by rw [putI_ne (by omega)]; exact (SP.2.2 _ _ (by omega)).trans hG) putI_eq
          · refine r_iload hm rfl (k := ?_)
            refine r_goto (t := 82) hm rfl (k := ?_)
            refine r_callv (j2 := 29) hm rfl rfl rfl rfl rfl rfl (by first | assumption | exact (g1.1 _).trans rfl | exact I1 _ (by omega) | exact I2 _ (by omega) | exact I3 _ (by omega) | exact I4 _ (by omega)) (Nat.le_of_ble_eq_true rfl) (Nat.le_of_ble_eq_true rfl) rfl ⟨Nat.le_of_ble_eq_true rfl, Nat.le_of_ble_eq_true rfl, Nat.le_of_ble_eq_true rfl, Nat.le_of_ble_eq_true rfl, Nat.le_of_ble_eq_true rfl⟩ rfl (c_append (n := n) (I1 q (by omega)) (I2 q (by omega)) (I3 q (by omega)) (I4 q (by omega)) (J0 q (by omega)) (J1 q (by omega)) (J2 q (by omega)) ((F4 q (by omega)).trans en) (by omega) (by omega)) (fun v9 hP p9 => ?_)
            obtain ⟨e1, e2⟩ := p9
            subst e2
            have RP := RepC_pc (a := kd) (b := a) (c := b) hR (show q < S.1.1 by omega) en rfl
            have SP : Sm (fun a k => 33 ≤ a ∧ a < 273) h hP := by rw [e1]; exact Sm.put (Sm.put (Sm.put (Sm.put Sm.refl (by omega)) (by omega)) (by omega)) (by omega)
            have e7 : hP.2.1 (itm h 29 q) 7 = (n : Int) + 1 := by rw [e1]; exact putI_eq
            rw [← e1] at RP
            clear e1
            have gP := SP.gg g
            replace g1 := gP
            replace I1 := fun i hi => (congrArg (fun z => z[itm h 29 i]?) SP.1).trans (I1 i hi)
            change RN 27 85 _ _ _ 0 0 _
            dsimp only [Option.toList, List.nil_append]
            refine r_aload_n hm rfl (k := ?_)
            refine r_iconst hm rfl (k := ?_)
            refine r_putI (hm := hm) (hf := rfl) (hd := rfl) (hs := (by first | assumption | exact (g1.1 _).trans rfl | exact I1 _ (by omega) | exact I2 _ (by omega) | exact I3 _ (by omega) | exact I4 _ (by omega))) (hfin := Or.inl rfl) (hz := fun _ => by omega) (k := ?_)
            refine r_aload hm rfl (k := ?_)
            refine r_getI (hm := hm) (hf := rfl) (hd := rfl) (hs := (by first | assumption | exact (g1.1 _).trans rfl | exact I1 _ (by omega) | exact I2 _ (by omega) | exact I3 _ (by omega) | exact I4 _ (by omega))) (hv := (by first | exact putI_eq | exact (putI_ne (by omega)).trans (by first | first | assumption | exact g1.2 _ _ _ rfl | exact I0 _ (by omega) | exact J0 _ (by omega) | exact J1 _ (by omega) | exact J2 _ (by omega) | exact F0 _ (by omega) | exact F1 _ (by omega) | exact F2 _ (by omega) | exact F3 _ (by omega) | exact F4 _ (by omega) | exact P0 _ _ (by omega) (by omega) | exact P1 _ _ (by omega) (by omega) | exact P2 _ _ (by omega) (by omega) | exact e7) | first | assumption | exact g1.2 _ _ _ rfl | exact I0 _ (by omega) | exact J0 _ (by omega) | exact J1 _ (by omega) | exact J2 _ (by omega) | exact F0 _ (by omega) | exact F1 _ (by omega) | exact F2 _ (by omega) | exact F3 _ (by omega) | exact F4 _ (by omega) | exact P0 _ _ (by omega) (by omega) | exact P1 _ _ (by omega) (by omega) | exact P2 _ _ (by omega) (by omega) | exact e7)) (k := ?_)
            refine r_ireturn hm rfl rfl (by rfl) (Nat.le_of_ble_eq_true rfl) (Nat.le_of_ble_eq_true rfl) ?_
            unfold gdPc at hcp
            have eb : (if kd = 1 then b else 0) = b := if_pos (by omega)
            have eO : oPiece S (q : Int) kd a b = wT S (pcT S.1 q kd a b) := by
              unfold oPiece
              rw [if_pos ⟨by omega, hcp, c46, c60⟩, Int.toNat_natCast, eb]
            have eA : aPiece S (q : Int) kd a b = S.1.2.1 4 q + 1 := by
              unfold aPiece
              rw [if_neg (by omega), if_neg (fun z => z hcp), if_neg (fun z => z c46), if_neg (fun z => z c60), Int.toNat_natCast]
            rw [eO, eA]
            refine ⟨?_, fun a9 k9 e9 => by rw [putI_ne (by omega)]; exact SP.2.2 a9 k9 (by omega), by rw [en]⟩
            exact I.mut ⟨gP.1, gP.2⟩ (fun a9 k9 e9 => by show hP.2.2.1 a9 k9 = _; rw [SP.2.1]) (fun a9 k9 e9 => by rw [putI_ne (by omega)]; exact SP.2.2 a9 k9 (by omega)) (RP.fr (fun _ => rfl) (fun a9 k9 e1 e2 => putI_ne (by omega))) (by rw [putI_ne (by omega)]; exact (SP.2.2 _ _ (by omega)).trans hG) putI_eq
        · refine r_sipush hm rfl (k := ?_)
          refine r_ireturn hm rfl rfl (by rfl) (Nat.le_of_ble_eq_true rfl) (Nat.le_of_ble_eq_true rfl) ?_
          unfold gdPc at hcp
          unfold oPiece aPiece
          simp only [Int.toNat_natCast]
          rw [if_neg (fun z => c60 z.2.2.2), if_neg (by omega), if_neg (fun z => z hcp), if_neg (fun z => z c46), if_pos c60]
          exact ⟨I, FxC.refl, rfl⟩
      · refine r_sipush hm rfl (k := ?_)
        refine r_ireturn hm rfl rfl (by rfl) (Nat.le_of_ble_eq_true rfl) (Nat.le_of_ble_eq_true rfl) ?_
        unfold gdPc at hcp
        unfold oPiece aPiece
        simp only [Int.toNat_natCast]
        rw [if_neg (fun z => c46 z.2.2.1), if_neg (by omega), if_neg (fun z => z hcp), if_pos c46]
        exact ⟨I, FxC.refl, rfl⟩
    · have hcp : ¬ gdPc kd a b := by unfold gdPc; omega
      clear hb8 eb8
      refine r_sipush hm rfl (k := ?_)
      refine r_ireturn hm rfl rfl (by rfl) (Nat.le_of_ble_eq_true rfl) (Nat.le_of_ble_eq_true rfl) ?_
      unfold gdPc at hcp
      unfold oPiece aPiece
      rw [if_neg (fun z => hcp z.2.1), if_neg (by omega), if_pos hcp]
      exact ⟨I, FxC.refl, rfl⟩
  · refine r_sipush hm rfl (k := ?_)
    refine r_ireturn hm rfl rfl (by rfl) (Nat.le_of_ble_eq_true rfl) (Nat.le_of_ble_eq_true rfl) ?_
    unfold oPiece aPiece
    rw [if_neg (fun z => absurd z.1 (by omega)), if_pos (by omega)]
    exact ⟨I, FxC.refl, rfl⟩
