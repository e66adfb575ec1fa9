/-! the law's start -/
theorem getD_n4 {l : List (Option Nat)} {k b : Nat} (e : (l ++ [none, none, none, none]).getD k none = some b) : l.getD k none = some b := by
  rw [List.getD_eq_getElem?_getD] at e ⊢
  by_cases h : k < l.length
  · rwa [List.getElem?_append_left h] at e
  · rw [List.getElem?_append_right (by omega)] at e
    have z : ∀ q : Nat, (([none, none, none, none] : List (Option Nat))[q]?).getD none = none := fun q => by
      match q with
      | 0 => rfl
      | 1 => rfl
      | 2 => rfl
      | 3 => rfl
      | q + 4 => rfl
    rw [z] at e
    cases e
theorem rff_M {k b : Nat} (e : rff 1085 k = some b) : ([some (1085 + 1 + 0), some (1085 + 1 + 1), some (1085 + 1 + 2), some (1085 + 1 + 3), some (1085 + 1 + 4), some (1085 + 1 + 5), some (1085 + 1 + 6), some (1085 + 1 + 7), some (1085 + 1 + 8), some (1085 + 1 + 9), some (1085 + 1 + 10), none, none, some (1085 + 1 + 11), some (1085 + 1 + 12), some (1085 + 1 + 13), some (1085 + 1 + 14), some (1085 + 1 + 15), some (1085 + 1 + 16), some (1085 + 1 + 17), some (1085 + 1 + 18), some (1085 + 1 + 19), some (1085 + 1 + 20), some (1085 + 1 + 21), some (1085 + 1 + 22), some (1085 + 1 + 23), some (1085 + 1 + 24), some (1085 + 1 + 25), none, none, none, none, some (1085 + 1 + 26), some (1085 + 1 + 27), some (1085 + 1 + 28), none, none, none, some (1085 + 1 + 29), some (1085 + 1 + 30), some (1085 + 1 + 31), some (1085 + 1 + 32), some (1085 + 1 + 33), some (1085 + 1 + 34), some (1085 + 1 + 35), some (1085 + 1 + 36), some (1085 + 1 + 37), some (1085 + 1 + 38), some (1085 + 1 + 39), none, none, none, some (1085 + 1 + 40)] : List (Option Nat)).getD k none = some b := by
  have e2 : (([some (1085 + 1 + 0), some (1085 + 1 + 1), some (1085 + 1 + 2), some (1085 + 1 + 3), some (1085 + 1 + 4), some (1085 + 1 + 5), some (1085 + 1 + 6), some (1085 + 1 + 7), some (1085 + 1 + 8), some (1085 + 1 + 9), some (1085 + 1 + 10), none, none, some (1085 + 1 + 11), some (1085 + 1 + 12), some (1085 + 1 + 13), some (1085 + 1 + 14), some (1085 + 1 + 15), some (1085 + 1 + 16), some (1085 + 1 + 17), some (1085 + 1 + 18), some (1085 + 1 + 19), some (1085 + 1 + 20), some (1085 + 1 + 21), some (1085 + 1 + 22), some (1085 + 1 + 23), some (1085 + 1 + 24), some (1085 + 1 + 25), none, none, none, none, some (1085 + 1 + 26), some (1085 + 1 + 27), some (1085 + 1 + 28), none, none, none, some (1085 + 1 + 29), some (1085 + 1 + 30), some (1085 + 1 + 31), some (1085 + 1 + 32), some (1085 + 1 + 33), some (1085 + 1 + 34), some (1085 + 1 + 35), some (1085 + 1 + 36), some (1085 + 1 + 37), some (1085 + 1 + 38), some (1085 + 1 + 39), none, none, none, some (1085 + 1 + 40)] : List (Option Nat)) ++ [none, none, none, none]).getD k none = some b := e
  exact getD_n4 e2
set_option maxHeartbeats 4000000 in
set_option maxRecDepth 8000 in
theorem law_run {L : Nat} {xs : Nat → Int32} (hL : L ≤ 2560) : RN 0 0 [some (.inr (.inr (some (0)))), none, none, none] [] (hp0 L xs) 0 0 (fun v _ => v = some (.inl 1)) := by
  have hm : mrec 0 = some nM0 := rfl
  have l0 : (hp0 L xs).1.length = 28 := rfl
  refine r_new hm rfl rfl rfl (Nat.le_of_ble_eq_true rfl) (Nat.le_of_ble_eq_true rfl) ?_
  change RN 0 3 _ _ (alc (hp0 L xs) 0 11) 1 11 _
  rw [l0]
  refine r_dup hm rfl (k := ?_)
  refine r_calli (j2 := 1) hm rfl rfl rfl rfl rfl rfl rfl (by omega) (Nat.le_of_ble_eq_true rfl) (Nat.le_of_ble_eq_true rfl) rfl ⟨(Nat.le_of_ble_eq_true rfl), (Nat.le_of_ble_eq_true rfl), (Nat.le_of_ble_eq_true rfl), (Nat.le_of_ble_eq_true rfl), (Nat.le_of_ble_eq_true rfl)⟩ rfl (k_X (x := 28) rfl (by rw [alc_len, l0]) (by rw [← l0]; exact alc_s2)) (fun v9 h1 p9 => ?_)
  obtain ⟨D, e1⟩ := p9
  subst e1
  change RN 0 7 _ _ _ 1057 50631 _
  dsimp only [Option.toList, List.nil_append]
  have l1 : h1.1.length = 1085 := D.2.2.1
  refine r_astore_n hm rfl (k := ?_)
  refine r_new hm rfl rfl rfl (Nat.le_of_ble_eq_true rfl) (Nat.le_of_ble_eq_true rfl) ?_
  change RN 0 11 _ _ (alc h1 10 57) 1058 50688 _
  rw [l1]
  refine r_dup hm rfl (k := ?_)
  refine r_calli (j2 := 159) hm rfl rfl rfl rfl rfl rfl rfl (by omega) (Nat.le_of_ble_eq_true rfl) (Nat.le_of_ble_eq_true rfl) rfl ⟨(Nat.le_of_ble_eq_true rfl), (Nat.le_of_ble_eq_true rfl), (Nat.le_of_ble_eq_true rfl), (Nat.le_of_ble_eq_true rfl), (Nat.le_of_ble_eq_true rfl)⟩ rfl (k_M (x := 1085) (by rw [alc_len, l1]) (by rw [← l1]; exact alc_s2) (by omega)) (fun v9 h2 p9 => ?_)
  obtain ⟨E, e1⟩ := p9
  subst e1
  change RN 0 15 _ _ _ 1099 97602 _
  dsimp only [Option.toList, List.nil_append]
  refine r_astore_n hm rfl (k := ?_)
  have z1 : ∀ k, (alc h1 10 57).2.1 1085 k = 0 := fun k => by rw [← l1]; exact alc_i2
  obtain ⟨IC, IM, hx⟩ := first_st (L := L) (h := hp0 L xs) rfl hp0_cn D E (fun k b e => rff_M e) ⟨rfl, by show some ((alc h1 10 57).2.1 1085 11) = some 0; rw [z1], by show some ((alc h1 10 57).2.1 1085 49) = some 0; rw [z1]⟩ ⟨fun c _ => rfl, fun c _ => rfl, fun k hk => by show (if 39 ≤ 39 + k ∧ 39 + k < 52 then some (sty0 (39 + k - 39)) else none) = some (sty0 k); rw [if_pos (by omega), Nat.add_sub_cancel_left]⟩
  exact law_loop hL IC IM S0_ok (fun k => (hx k).trans rfl)
theorem law_wp (L : Nat) (xs : Nat → Int32) (hL : L ≤ 2560) : ∃ n, wp n 0 0 (mkL 4 [.inr (.inr (some 0))]) [] (hp0 L xs) 0 0 (fun v _ => v = some (.inl 1)) := by
  obtain ⟨n, v, h2, h3, h4⟩ := law_run (xs := xs) hL
  exact ⟨n, h4 _ h3⟩
