/-! strings, tokens, words: the class -/
theorem j_coder {h : Hp} {s q m : Nat} (hS : h.1[s]? = some (200, 2)) (hB : h.1[q]? = some (103, m)) (hm8 : m ≤ 8) (hf0 : h.2.2.1 s 0 = some q) (hc : h.2.1 s 1 = 0) : RN 141 0 [some (.inr (.inr (some (s))))] [] h 0 0 (fun v h2 => h2 = h ∧ v = some (.inl (0))) := by
  have hm : mrec 141 = some nM141 := rfl
  refine r_gets hm rfl (hd := rfl) (k := ?_)
  refine r_if_eq (t := 13) hm rfl rfl (fun c3 => ?_) (fun c3 => ?_)
  · exact absurd c3 (by decide)
  · refine r_aload_n hm rfl (k := ?_)
    refine r_getI (hm := hm) (hf := rfl) (hd := rfl) (hs := (by assumption)) (hv := (by assumption)) (k := ?_)
    refine r_goto (t := 14) hm rfl (k := ?_)
    refine r_ireturn hm rfl rfl (by rfl) (Nat.le_of_ble_eq_true rfl) (Nat.le_of_ble_eq_true rfl) ?_
    exact ⟨rfl, rfl⟩
theorem j_latin {h : Hp} {s q m : Nat} (hS : h.1[s]? = some (200, 2)) (hB : h.1[q]? = some (103, m)) (hm8 : m ≤ 8) (hf0 : h.2.2.1 s 0 = some q) (hc : h.2.1 s 1 = 0) : RN 143 0 [some (.inr (.inr (some (s))))] [] h 0 0 (fun v h2 => h2 = h ∧ v = some (.inl (1))) := by
  have hm : mrec 143 = some nM143 := rfl
  refine r_gets hm rfl (hd := rfl) (k := ?_)
  refine r_if_eq (t := 17) hm rfl rfl (fun c3 => ?_) (fun c3 => ?_)
  · exact absurd c3 (by decide)
  · refine r_aload_n hm rfl (k := ?_)
    refine r_getI (hm := hm) (hf := rfl) (hd := rfl) (hs := (by assumption)) (hv := (by assumption)) (k := ?_)
    refine r_if_ne (t := 17) hm rfl rfl (fun c10 => ?_) (fun c10 => ?_)
    · exact absurd rfl c10
    · refine r_iconst hm rfl (k := ?_)
      refine r_goto (t := 18) hm rfl (k := ?_)
      refine r_ireturn hm rfl rfl (by rfl) (Nat.le_of_ble_eq_true rfl) (Nat.le_of_ble_eq_true rfl) ?_
      exact ⟨rfl, rfl⟩
theorem shr0 {m : Nat} (h : m ≤ 8) : op2 (fun a b => a >>> (b &&& 31)) (m : Int) 0 = (m : Int) := by
  have e : ∀ m : Fin 9, op2 (fun a b => a >>> (b &&& 31)) ((m.val : Nat) : Int) 0 = ((m.val : Nat) : Int) := by decide +kernel
  exact e ⟨m, by omega⟩
theorem chr7 {z : Int} (h : 0 ≤ z ∧ z ≤ 127) : ((Int32.ofInt (op2 (· &&& ·) z 255)).toUInt32 % 65536).toInt32.toInt = z := by
  have e : ∀ m : Fin 128, ((Int32.ofInt (op2 (· &&& ·) ((m.val : Nat) : Int) 255)).toUInt32 % 65536).toInt32.toInt = ((m.val : Nat) : Int) := by decide +kernel
  have := e ⟨z.toNat, by omega⟩
  dsimp only at this
  rwa [show ((z.toNat : Nat) : Int) = z by omega] at this
theorem nar7 {z : Int} (h : 0 ≤ z ∧ z ≤ 127) : narrow FieldType.char (.int (Int32.ofInt z)) = .int (Int32.ofInt z) := by
  have e : ∀ m : Fin 128, (Int32.ofInt ((m.val : Nat) : Int)).toUInt32 % 65536 = (Int32.ofInt ((m.val : Nat) : Int)).toUInt32 := by decide +kernel
  have e2 := e ⟨z.toNat, by omega⟩
  dsimp only at e2
  rw [show ((z.toNat : Nat) : Int) = z by omega] at e2
  simp only [narrow]
  first | rfl | (rw [e2]; rfl) | (simp [e2])
theorem j_length {h : Hp} {s q m : Nat} (hS : h.1[s]? = some (200, 2)) (hB : h.1[q]? = some (103, m)) (hm8 : m ≤ 8) (hf0 : h.2.2.1 s 0 = some q) (hc : h.2.1 s 1 = 0) : RN 140 0 [some (.inr (.inr (some (s))))] [] h 0 0 (fun v h2 => h2 = h ∧ v = some (.inl ((m : Int)))) := by
  have hm : mrec 140 = some nM140 := rfl
  refine r_aload_n hm rfl (k := ?_)
  refine r_getR (hm := hm) (hf := rfl) (hd := rfl) (hs := (by assumption)) (hv := (by assumption)) (k := ?_)
  refine r_alen hm rfl (hs := hB) (hn := by omega) (k := ?_)
  refine r_aload_n hm rfl (k := ?_)
  refine r_callv (j2 := 141) hm rfl rfl rfl rfl rfl rfl (by assumption) (Nat.le_of_ble_eq_true rfl) (Nat.le_of_ble_eq_true rfl) rfl ⟨Nat.le_of_ble_eq_true rfl, Nat.le_of_ble_eq_true rfl, Nat.le_of_ble_eq_true rfl, Nat.le_of_ble_eq_true rfl, Nat.le_of_ble_eq_true rfl⟩ rfl (j_coder hS hB hm8 hf0 hc) (fun v9 h9 p9 => ?_)
  obtain ⟨e1, e2⟩ := p9
  subst e2
  replace e1 := e1.symm
  subst e1
  change RN 140 9 _ _ _ 0 0 _
  dsimp only [Option.toList, List.cons_append, List.nil_append]
  refine r_ishr hm rfl (k := ?_)
  refine r_ireturn hm rfl rfl (by rfl) (Nat.le_of_ble_eq_true rfl) (Nat.le_of_ble_eq_true rfl) ?_
  exact ⟨rfl, by rw [shr0 hm8]⟩
theorem j_chk {h : Hp} {i m : Int} (h1 : 0 ≤ i) (h3 : i < m) : RN 146 0 [some (.inl i), some (.inl m), some (.inr (.inr (some (27))))] [] h 0 0 (fun v h2 => h2 = h ∧ v = some (.inl (i))) := by
  have hm : mrec 146 = some nM146 := rfl
  refine r_iload_n hm rfl (k := ?_)
  refine r_if_lt (t := 9) hm rfl rfl (fun c1 => ?_) (fun c1 => ?_)
  · exfalso; omega
  · refine r_iload_n hm rfl (k := ?_)
    refine r_iload_n hm rfl (k := ?_)
    refine r_icmp_lt (t := 16) hm rfl rfl (fun c6 => ?_) (fun c6 => ?_)
    · refine r_iload_n hm rfl (k := ?_)
      refine r_ireturn hm rfl rfl (by rfl) (Nat.le_of_ble_eq_true rfl) (Nat.le_of_ble_eq_true rfl) ?_
      exact ⟨rfl, rfl⟩
    · exfalso; omega
theorem j_chk2 {h : Hp} {i m : Int} (h1 : 0 ≤ i) (h3 : i < m) : RN 145 0 [some (.inl i), some (.inl m)] [] h 0 0 (fun v h2 => h2 = h ∧ v = none) := by
  have hm : mrec 145 = some nM145 := rfl
  refine r_iload_n hm rfl (k := ?_)
  refine r_iload_n hm rfl (k := ?_)
  refine r_gets hm rfl (hd := rfl) (k := ?_)
  refine r_calls (j2 := 146) hm rfl rfl rfl rfl rfl rfl (Nat.le_of_ble_eq_true rfl) (Nat.le_of_ble_eq_true rfl) rfl ⟨Nat.le_of_ble_eq_true rfl, Nat.le_of_ble_eq_true rfl, Nat.le_of_ble_eq_true rfl, Nat.le_of_ble_eq_true rfl, Nat.le_of_ble_eq_true rfl⟩ rfl (j_chk h1 h3) (fun v9 h9 p9 => ?_)
  obtain ⟨e1, e2⟩ := p9
  subst e2
  replace e1 := e1.symm
  subst e1
  change RN 145 8 _ _ _ 0 0 _
  dsimp only [Option.toList, List.cons_append, List.nil_append]
  refine r_pop hm rfl (k := ?_)
  refine r_return hm rfl rfl (Nat.le_of_ble_eq_true rfl) (Nat.le_of_ble_eq_true rfl) ?_
  exact ⟨rfl, rfl⟩
theorem j_chrL {h : Hp} {q m k : Nat} {y9 : Int} (hB : h.1[q]? = some (103, m)) (hm8 : m ≤ 8) (hz : y9 = (k : Int)) (hk : k < m) (hb : 0 ≤ h.2.1 q k ∧ h.2.1 q k ≤ 127) : RN 144 0 [some (.inr (.inr (some (q)))), some (.inl y9)] [] h 0 0 (fun v h2 => h2 = h ∧ v = some (.inl (h.2.1 q k))) := by
  have hm : mrec 144 = some nM144 := rfl
  refine r_iload_n hm rfl (k := ?_)
  refine r_aload_n hm rfl (k := ?_)
  refine r_alen hm rfl (hs := hB) (hn := by omega) (k := ?_)
  refine r_calls (j2 := 145) hm rfl rfl rfl rfl rfl rfl (Nat.le_of_ble_eq_true rfl) (Nat.le_of_ble_eq_true rfl) rfl ⟨Nat.le_of_ble_eq_true rfl, Nat.le_of_ble_eq_true rfl, Nat.le_of_ble_eq_true rfl, Nat.le_of_ble_eq_true rfl, Nat.le_of_ble_eq_true rfl⟩ rfl (j_chk2 (by omega) (by omega)) (fun v9 h9 p9 => ?_)
  obtain ⟨e1, e2⟩ := p9
  subst e2
  replace e1 := e1.symm
  subst e1
  change RN 144 6 _ _ _ 0 0 _
  dsimp only [Option.toList, List.nil_append]
  refine r_aload_n hm rfl (k := ?_)
  refine r_iload_n hm rfl (k := ?_)
  refine r_bald (hm := hm) (hf := rfl) (hs := (by assumption)) (hkd := by decide) (kk := k) (hi := by omega) (hn := (by omega)) (hv := (by rfl)) (k := ?_)
  refine r_sipush hm rfl (k := ?_)
  refine r_iand hm rfl (k := ?_)
  refine r_i2c hm rfl (k := ?_)
  rw [chr7 hb]
  refine r_ireturn hm rfl rfl (by exact nar7 hb) (Nat.le_of_ble_eq_true rfl) (Nat.le_of_ble_eq_true rfl) ?_
  exact ⟨rfl, rfl⟩
theorem j_charAt {h : Hp} {s q m : Nat} (hS : h.1[s]? = some (200, 2)) (hB : h.1[q]? = some (103, m)) (hm8 : m ≤ 8) (hf0 : h.2.2.1 s 0 = some q) (hc : h.2.1 s 1 = 0) {k : Nat} {y9 : Int} (hz : y9 = (k : Int)) (hk : k < m) (hb : 0 ≤ h.2.1 q k ∧ h.2.1 q k ≤ 127) : RN 142 0 [some (.inr (.inr (some (s)))), some (.inl y9)] [] h 0 0 (fun v h2 => h2 = h ∧ v = some (.inl (h.2.1 q k))) := by
  have hm : mrec 142 = some nM142 := rfl
  refine r_aload_n hm rfl (k := ?_)
  refine r_callv (j2 := 143) hm rfl rfl rfl rfl rfl rfl (by assumption) (Nat.le_of_ble_eq_true rfl) (Nat.le_of_ble_eq_true rfl) rfl ⟨Nat.le_of_ble_eq_true rfl, Nat.le_of_ble_eq_true rfl, Nat.le_of_ble_eq_true rfl, Nat.le_of_ble_eq_true rfl, Nat.le_of_ble_eq_true rfl⟩ rfl (j_latin hS hB hm8 hf0 hc) (fun v9 h9 p9 => ?_)
  obtain ⟨e1, e2⟩ := p9
  subst e2
  replace e1 := e1.symm
  subst e1
  change RN 142 4 _ _ _ 0 0 _
  dsimp only [Option.toList, List.cons_append, List.nil_append]
  refine r_if_eq (t := 16) hm rfl rfl (fun c4 => ?_) (fun c4 => ?_)
  · exact absurd c4 (by decide)
  · refine r_aload_n hm rfl (k := ?_)
    refine r_getR (hm := hm) (hf := rfl) (hd := rfl) (hs := (by assumption)) (hv := (by assumption)) (k := ?_)
    refine r_iload_n hm rfl (k := ?_)
    refine r_calls (j2 := 144) hm rfl rfl rfl rfl rfl rfl (Nat.le_of_ble_eq_true rfl) (Nat.le_of_ble_eq_true rfl) rfl ⟨Nat.le_of_ble_eq_true rfl, Nat.le_of_ble_eq_true rfl, Nat.le_of_ble_eq_true rfl, Nat.le_of_ble_eq_true rfl, Nat.le_of_ble_eq_true rfl⟩ rfl (j_chrL hB hm8 hz hk hb) (fun v9 h9 p9 => ?_)
    obtain ⟨e1, e2⟩ := p9
    subst e2
    replace e1 := e1.symm
    subst e1
    change RN 142 15 _ _ _ 0 0 _
    dsimp only [Option.toList, List.cons_append, List.nil_append]
    refine r_ireturn hm rfl rfl (by exact nar7 hb) (Nat.le_of_ble_eq_true rfl) (Nat.le_of_ble_eq_true rfl) ?_
    exact ⟨rfl, rfl⟩
theorem c_sortOf {h : Hp} {y9 : Int} : RN 137 0 [some (.inl y9)] [] h 0 0 (fun v h2 => h2 = h ∧ v = some (.inl (srt y9))) := by
  have hm : mrec 137 = some nM137 := rfl
  refine r_iload_n hm rfl (k := ?_)
  refine r_bipush hm rfl (k := ?_)
  refine r_icmp_lt (t := 14) hm rfl rfl (fun c3 => ?_) (fun c3 => ?_)
  · refine r_iload_n hm rfl (k := ?_)
    refine r_bipush hm rfl (k := ?_)
    refine r_icmp_lt (t := 28) hm rfl rfl (fun c17 => ?_) (fun c17 => ?_)
    · refine r_iload_n hm rfl (k := ?_)
      refine r_bipush hm rfl (k := ?_)
      refine r_icmp_ne (t := 38) hm rfl rfl (fun c31 => ?_) (fun c31 => ?_)
      · refine r_iconst hm rfl (k := ?_)
        refine r_ireturn hm rfl rfl (by rfl) (Nat.le_of_ble_eq_true rfl) (Nat.le_of_ble_eq_true rfl) ?_
        have e9 : srt y9 = 4 := by unfold srt; (repeat' split) <;> omega
        exact ⟨rfl, by rw [e9]⟩
      · refine r_iconst hm rfl (k := ?_)
        refine r_goto (t := 39) hm rfl (k := ?_)
        refine r_ireturn hm rfl rfl (by rfl) (Nat.le_of_ble_eq_true rfl) (Nat.le_of_ble_eq_true rfl) ?_
        have e9 : srt y9 = 3 := by unfold srt; (repeat' split) <;> omega
        exact ⟨rfl, by rw [e9]⟩
    · refine r_iload_n hm rfl (k := ?_)
      refine r_bipush hm rfl (k := ?_)
      refine r_icmp_gt (t := 28) hm rfl rfl (fun c23 => ?_) (fun c23 => ?_)
      · refine r_iload_n hm rfl (k := ?_)
        refine r_bipush hm rfl (k := ?_)
        refine r_icmp_ne (t := 38) hm rfl rfl (fun c31 => ?_) (fun c31 => ?_)
        · refine r_iconst hm rfl (k := ?_)
          refine r_ireturn hm rfl rfl (by rfl) (Nat.le_of_ble_eq_true rfl) (Nat.le_of_ble_eq_true rfl) ?_
          have e9 : srt y9 = 4 := by unfold srt; (repeat' split) <;> omega
          exact ⟨rfl, by rw [e9]⟩
        · refine r_iconst hm rfl (k := ?_)
          refine r_goto (t := 39) hm rfl (k := ?_)
          refine r_ireturn hm rfl rfl (by rfl) (Nat.le_of_ble_eq_true rfl) (Nat.le_of_ble_eq_true rfl) ?_
          have e9 : srt y9 = 3 := by unfold srt; (repeat' split) <;> omega
          exact ⟨rfl, by rw [e9]⟩
      · refine r_iconst hm rfl (k := ?_)
        refine r_ireturn hm rfl rfl (by rfl) (Nat.le_of_ble_eq_true rfl) (Nat.le_of_ble_eq_true rfl) ?_
        have e9 : srt y9 = 2 := by unfold srt; (repeat' split) <;> omega
        exact ⟨rfl, by rw [e9]⟩
  · refine r_iload_n hm rfl (k := ?_)
    refine r_bipush hm rfl (k := ?_)
    refine r_icmp_gt (t := 14) hm rfl rfl (fun c9 => ?_) (fun c9 => ?_)
    · refine r_iload_n hm rfl (k := ?_)
      refine r_bipush hm rfl (k := ?_)
      refine r_icmp_lt (t := 28) hm rfl rfl (fun c17 => ?_) (fun c17 => ?_)
      · refine r_iload_n hm rfl (k := ?_)
        refine r_bipush hm rfl (k := ?_)
        refine r_icmp_ne (t := 38) hm rfl rfl (fun c31 => ?_) (fun c31 => ?_)
        · refine r_iconst hm rfl (k := ?_)
          refine r_ireturn hm rfl rfl (by rfl) (Nat.le_of_ble_eq_true rfl) (Nat.le_of_ble_eq_true rfl) ?_
          have e9 : srt y9 = 4 := by unfold srt; (repeat' split) <;> omega
          exact ⟨rfl, by rw [e9]⟩
        · refine r_iconst hm rfl (k := ?_)
          refine r_goto (t := 39) hm rfl (k := ?_)
          refine r_ireturn hm rfl rfl (by rfl) (Nat.le_of_ble_eq_true rfl) (Nat.le_of_ble_eq_true rfl) ?_
          have e9 : srt y9 = 3 := by unfold srt; (repeat' split) <;> omega
          exact ⟨rfl, by rw [e9]⟩
      · refine r_iload_n hm rfl (k := ?_)
        refine r_bipush hm rfl (k := ?_)
        refine r_icmp_gt (t := 28) hm rfl rfl (fun c23 => ?_) (fun c23 => ?_)
        · refine r_iload_n hm rfl (k := ?_)
          refine r_bipush hm rfl (k := ?_)
          refine r_icmp_ne (t := 38) hm rfl rfl (fun c31 => ?_) (fun c31 => ?_)
          · refine r_iconst hm rfl (k := ?_)
            refine r_ireturn hm rfl rfl (by rfl) (Nat.le_of_ble_eq_true rfl) (Nat.le_of_ble_eq_true rfl) ?_
            have e9 : srt y9 = 4 := by unfold srt; (repeat' split) <;> omega
            exact ⟨rfl, by rw [e9]⟩
          · refine r_iconst hm rfl (k := ?_)
            refine r_goto (t := 39) hm rfl (k := ?_)
            refine r_ireturn hm rfl rfl (by rfl) (Nat.le_of_ble_eq_true rfl) (Nat.le_of_ble_eq_true rfl) ?_
            have e9 : srt y9 = 3 := by unfold srt; (repeat' split) <;> omega
            exact ⟨rfl, by rw [e9]⟩
        · refine r_iconst hm rfl (k := ?_)
          refine r_ireturn hm rfl rfl (by rfl) (Nat.le_of_ble_eq_true rfl) (Nat.le_of_ble_eq_true rfl) ?_
          have e9 : srt y9 = 2 := by unfold srt; (repeat' split) <;> omega
          exact ⟨rfl, by rw [e9]⟩
    · refine r_iconst hm rfl (k := ?_)
      refine r_ireturn hm rfl rfl (by rfl) (Nat.le_of_ble_eq_true rfl) (Nat.le_of_ble_eq_true rfl) ?_
      have e9 : srt y9 = 1 := by unfold srt; (repeat' split) <;> omega
      exact ⟨rfl, by rw [e9]⟩
def regR (a k : Nat) : Prop := (a = 347 ∧ (k = 2 ∨ k = 3 ∨ 7 ≤ k)) ∨ a = 349 ∨ a = 351 ∨ a = 352
/-- the reader but for its token -/
def R0 (L : Nat) (h0 h : Hp) (b : Nat → Int) (n : Nat) (s : Rd) : Prop := GG L h ∧ CN h ∧ Sm regR h0 h ∧ h.2.1 347 1 = (n : Int) ∧ n ≤ 160 ∧ (∀ k, k < n → h.2.1 350 k = b k) ∧ (∀ k, k < n → 0 ≤ b k ∧ b k ≤ 255) ∧ h.2.1 347 2 = s.2.1 ∧ h.2.1 347 3 = s.2.2.1 ∧ (∀ k, k < 13 → h.2.1 349 k = s.2.2.2.1 k) ∧ (∀ k, k < 4 → h.2.1 351 k = s.2.2.2.2.1 k) ∧ ∀ k, k < 5 → h.2.1 352 k = s.2.2.2.2.2 k
def Rr (L : Nat) (h0 h : Hp) (b : Nat → Int) (n : Nat) (s : Rd) : Prop := R0 L h0 h b n s ∧ okR b n s ∧ h.2.1 347 7 = tkz b n s.1 ∧ h.2.1 347 8 = (s.1 : Int) ∧ h.2.1 347 9 = (tez b n s.1 : Int)
theorem R0.pu {L : Nat} {h0 h : Hp} {b : Nat → Int} {n a k : Nat} {v : Int} {s s2 : Rd} (D : R0 L h0 h b n s) (hr : regR a k) (h2 : (putI h a k v).2.1 347 2 = s2.2.1) (h3 : (putI h a k v).2.1 347 3 = s2.2.2.1) (h4 : ∀ q, q < 13 → (putI h a k v).2.1 349 q = s2.2.2.2.1 q) (h5 : ∀ q, q < 4 → (putI h a k v).2.1 351 q = s2.2.2.2.2.1 q) (h6 : ∀ q, q < 5 → (putI h a k v).2.1 352 q = s2.2.2.2.2.2 q) : R0 L h0 (putI h a k v) b n s2 := by
  obtain ⟨g1, C, SM, dl, dn, db, dbr, df, da, dd, dc, dv⟩ := D
  have S1 : Sm regR h (putI h a k v) := Sm.put Sm.refl hr
  refine ⟨S1.gg g1, S1.cn (fun a k z => by unfold regR at z; omega) C, Sm.put SM hr, ?_, dn, fun q hq => ?_, dbr, h2, h3, h4, h5, h6⟩
  · rw [putI_ne (by unfold regR at hr; omega)]; exact dl
  · rw [putI_ne (by unfold regR at hr; omega)]; exact db q hq
theorem R0.pT {L : Nat} {h0 h : Hp} {b : Nat → Int} {n k : Nat} {v : Int} {s : Rd} (D : R0 L h0 h b n s) (hk : 7 ≤ k) : R0 L h0 (putI h 347 k v) b n s := by
  obtain ⟨g1, C, SM, dl, dn, db, dbr, df, da, dd, dc, dv⟩ := id D
  refine D.pu (by unfold regR; omega) ?_ ?_ (fun q hq => ?_) (fun q hq => ?_) (fun q hq => ?_)
  · rw [putI_ne (by omega)]; exact df
  · rw [putI_ne (by omega)]; exact da
  · rw [putI_ne (by omega)]; exact dd q hq
  · rw [putI_ne (by omega)]; exact dc q hq
  · rw [putI_ne (by omega)]; exact dv q hq
theorem R0.po9 {L : Nat} {h0 h : Hp} {b : Nat → Int} {n p : Nat} {s : Rd} (D : R0 L h0 h b n s) : R0 L h0 h b n (p, s.2) := D
theorem wd_len {i : Nat} (hi : i < 12) : (wd i).length ≤ 8 ∧ ∀ k, k < (wd i).length → 0 ≤ (wd i).getD k 0 ∧ (wd i).getD k 0 ≤ 127 := by
  have e : ∀ i, i < 12 → (wd i).length ≤ 8 ∧ ∀ k, k < (wd i).length → 0 ≤ (wd i).getD k 0 ∧ (wd i).getD k 0 ≤ 127 := by decide +kernel
  exact e i hi
theorem GG.str {L : Nat} {h : Hp} {i : Nat} (g : GG L h) (hi : i < 12) : h.1[3 + i]? = some (200, 2) ∧ h.1[15 + i]? = some (103, (wd i).length) := by
  rw [g.1, g.1]
  have c : i = 0 ∨ i = 1 ∨ i = 2 ∨ i = 3 ∨ i = 4 ∨ i = 5 ∨ i = 6 ∨ i = 7 ∨ i = 8 ∨ i = 9 ∨ i = 10 ∨ i = 11 := by omega
  rcases c with rfl | rfl | rfl | rfl | rfl | rfl | rfl | rfl | rfl | rfl | rfl | rfl <;> exact ⟨rfl, rfl⟩
set_option maxRecDepth 8000 in
theorem c_isWord {L : Nat} {h0 h : Hp} {b : Nat → Int} {n : Nat} {s : Rd} (D : Rr L h0 h b n s) {i : Nat} (hi : i < 12) : RN 139 0 [some (.inr (.inr (some (347)))), some (.inr (.inr (some (3 + i)))), none] [] h 0 0 (fun v h2 => h2 = h ∧ v = some (.inl ((if isW b n s.1 i = true then 1 else 0)))) := by
  have hm : mrec 139 = some nM139 := rfl
  obtain ⟨D0, ok9, t7, t8, t9⟩ := id D
  obtain ⟨g1, C, SM, dl, dn, db, dbr, df, da, dd, dc, dv⟩ := id D0
  obtain ⟨q1, q2, q3, q4, q5, q6, q7⟩ := id ok9
  obtain ⟨e1_, e2_, e3_⟩ := tez_rng (b := b) q1
  obtain ⟨w1, w2⟩ := g1.str hi
  obtain ⟨w3, w4⟩ := wd_len hi
  refine r_aload_n hm rfl (k := ?_)
  refine r_getI (hm := hm) (hf := rfl) (hd := rfl) (hs := (by first | assumption | exact (g1.1 _).trans rfl | exact w1)) (hv := (by first | assumption | exact g1.2 _ _ _ rfl | exact db _ (by omega) | exact dd _ (by omega) | exact dc _ (by omega) | exact dv _ (by omega))) (k := ?_)
  refine r_iconst hm rfl (k := ?_)
  refine r_icmp_ne (t := 24) hm rfl rfl (fun c5 => ?_) (fun c5 => ?_)
  · refine r_iconst hm rfl (k := ?_)
    refine r_ireturn hm rfl rfl (by rfl) (Nat.le_of_ble_eq_true rfl) (Nat.le_of_ble_eq_true rfl) ?_
    have hF : isW b n s.1 i = false := decide_eq_false (fun z => by have z1 := z.1; have z2 := z.2.1; omega)
    exact ⟨rfl, by rw [hF]; rfl⟩
  · refine r_aload_n hm rfl (k := ?_)
    refine r_getI (hm := hm) (hf := rfl) (hd := rfl) (hs := (by first | assumption | exact (g1.1 _).trans rfl | exact w1)) (hv := (by first | assumption | exact g1.2 _ _ _ rfl | exact db _ (by omega) | exact dd _ (by omega) | exact dc _ (by omega) | exact dv _ (by omega))) (k := ?_)
    refine r_aload_n hm rfl (k := ?_)
    refine r_getI (hm := hm) (hf := rfl) (hd := rfl) (hs := (by first | assumption | exact (g1.1 _).trans rfl | exact w1)) (hv := (by first | assumption | exact g1.2 _ _ _ rfl | exact db _ (by omega) | exact dd _ (by omega) | exact dc _ (by omega) | exact dv _ (by omega))) (k := ?_)
    refine r_isub hm rfl (hr := (by omega)) (k := ?_)
    refine r_aload_n hm rfl (k := ?_)
    refine r_callv (j2 := 140) hm rfl rfl rfl rfl rfl rfl (by first | assumption | exact (g1.1 _).trans rfl | exact w1) (Nat.le_of_ble_eq_true rfl) (Nat.le_of_ble_eq_true rfl) rfl ⟨Nat.le_of_ble_eq_true rfl, Nat.le_of_ble_eq_true rfl, Nat.le_of_ble_eq_true rfl, Nat.le_of_ble_eq_true rfl, Nat.le_of_ble_eq_true rfl⟩ rfl (j_length w1 w2 w3 (C.2.2.2.2 i hi) (C.2.2.2.1 i hi)) (fun v9 h9 p9 => ?_)
    obtain ⟨e1, e2⟩ := p9
    subst e2
    replace e1 := e1.symm
    subst e1
    change RN 139 21 _ _ _ 0 0 _
    dsimp only [Option.toList, List.cons_append, List.nil_append]
    refine r_icmp_eq (t := 26) hm rfl rfl (fun c21 => ?_) (fun c21 => ?_)
    · refine r_aload_n hm rfl (k := ?_)
      refine r_getI (hm := hm) (hf := rfl) (hd := rfl) (hs := (by first | assumption | exact (g1.1 _).trans rfl | exact w1)) (hv := (by first | assumption | exact g1.2 _ _ _ rfl | exact db _ (by omega) | exact dd _ (by omega) | exact dc _ (by omega) | exact dv _ (by omega))) (k := ?_)
      refine r_istore_n hm rfl (k := ?_)
      have em : tez b n s.1 - s.1 = (wd i).length := by omega
      suffices LP : ∀ (d k : Nat), k + d = (wd i).length → (∀ k2, k2 < k → b (s.1 + k2) = (wd i).getD k2 0) → RN 139 31 [some (.inr (.inr (some (347)))), some (.inr (.inr (some (3 + i)))), some (.inl ((s.1 + k : Nat) : Int))] [] h 0 0 (fun v h2 => h2 = h ∧ v = some (.inl ((if isW b n s.1 i = true then 1 else 0)))) from LP (wd i).length 0 (by omega) (fun k2 hk2 => absurd hk2 (Nat.not_lt_zero _))
      refine fun d => Nat.strongRecOn d (fun d ih => ?_)
      intro k hd eW
      refine r_iload_n hm rfl (k := ?_)
      refine r_aload_n hm rfl (k := ?_)
      refine r_getI (hm := hm) (hf := rfl) (hd := rfl) (hs := (by first | assumption | exact (g1.1 _).trans rfl | exact w1)) (hv := (by first | assumption | exact g1.2 _ _ _ rfl | exact db _ (by omega) | exact dd _ (by omega) | exact dc _ (by omega) | exact dv _ (by omega))) (k := ?_)
      refine r_icmp_ge (t := 66) hm rfl rfl (fun c36 => ?_) (fun c36 => ?_)
      · refine r_iconst hm rfl (k := ?_)
        refine r_ireturn hm rfl rfl (by rfl) (Nat.le_of_ble_eq_true rfl) (Nat.le_of_ble_eq_true rfl) ?_
        have hT : isW b n s.1 i = true := decide_eq_true ⟨by omega, em, fun k2 hk2 => eW k2 (by omega)⟩
        exact ⟨rfl, by rw [if_pos hT]⟩
      · refine r_aload_n hm rfl (k := ?_)
        refine r_getR (hm := hm) (hf := rfl) (hd := rfl) (hs := (by first | assumption | exact (g1.1 _).trans rfl | exact w1)) (hv := (by first | assumption | exact g1.2 _ _ _ rfl | exact db _ (by omega) | exact dd _ (by omega) | exact dc _ (by omega) | exact dv _ (by omega))) (k := ?_)
        refine r_iload_n hm rfl (k := ?_)
        refine r_iald (hm := hm) (hf := rfl) (hs := (by first | assumption | exact (g1.1 _).trans rfl | exact w1)) (kk := s.1 + k) (hi := by omega) (hn := (by omega)) (hv := (by first | assumption | exact g1.2 _ _ _ rfl | exact db _ (by omega) | exact dd _ (by omega) | exact dc _ (by omega) | exact dv _ (by omega))) (k := ?_)
        refine r_aload_n hm rfl (k := ?_)
        refine r_iload_n hm rfl (k := ?_)
        refine r_aload_n hm rfl (k := ?_)
        refine r_getI (hm := hm) (hf := rfl) (hd := rfl) (hs := (by first | assumption | exact (g1.1 _).trans rfl | exact w1)) (hv := (by first | assumption | exact g1.2 _ _ _ rfl | exact db _ (by omega) | exact dd _ (by omega) | exact dc _ (by omega) | exact dv _ (by omega))) (k := ?_)
        refine r_isub hm rfl (hr := (by omega)) (k := ?_)
        refine r_callv (j2 := 142) hm rfl rfl rfl rfl rfl rfl (by first | assumption | exact (g1.1 _).trans rfl | exact w1) (Nat.le_of_ble_eq_true rfl) (Nat.le_of_ble_eq_true rfl) rfl ⟨Nat.le_of_ble_eq_true rfl, Nat.le_of_ble_eq_true rfl, Nat.le_of_ble_eq_true rfl, Nat.le_of_ble_eq_true rfl, Nat.le_of_ble_eq_true rfl⟩ rfl (j_charAt w1 w2 w3 (C.2.2.2.2 i hi) (C.2.2.2.1 i hi) (k := k) (by omega) (by omega) (by rw [C.2.2.1 i k hi]; exact w4 k (by omega))) (fun v9 h9 p9 => ?_)
        obtain ⟨e1, e2⟩ := p9
        subst e2
        replace e1 := e1.symm
        subst e1
        rw [C.2.2.1 i k hi]
        have ew9 : (nStB.getD i []).getD k 0 = (wd i).getD k 0 := rfl
        rw [ew9]
        change RN 139 55 _ _ _ 0 0 _
        dsimp only [Option.toList, List.cons_append, List.nil_append]
        refine r_icmp_eq (t := 60) hm rfl rfl (fun c55 => ?_) (fun c55 => ?_)
        · refine r_iinc hm rfl (hr := (by omega)) (k := ?_)
          refine r_goto (t := 31) hm rfl (k := ?_)
          exact ih (d - 1) (by omega) (k + 1) (by omega) (fun k2 hk2 => by by_cases e : k2 = k; (subst e; omega); exact eW k2 (by omega))
        · refine r_iconst hm rfl (k := ?_)
          refine r_ireturn hm rfl rfl (by rfl) (Nat.le_of_ble_eq_true rfl) (Nat.le_of_ble_eq_true rfl) ?_
          have hF : isW b n s.1 i = false := decide_eq_false (fun z => by have := z.2.2 k (by omega); omega)
          exact ⟨rfl, by rw [hF]; rfl⟩
    · refine r_iconst hm rfl (k := ?_)
      refine r_ireturn hm rfl rfl (by rfl) (Nat.le_of_ble_eq_true rfl) (Nat.le_of_ble_eq_true rfl) ?_
      have hF : isW b n s.1 i = false := decide_eq_false (fun z => by have z1 := z.1; have z2 := z.2.1; omega)
      exact ⟨rfl, by rw [hF]; rfl⟩
set_option maxRecDepth 8000 in
theorem c_advance {L : Nat} {h0 h : Hp} {b : Nat → Int} {n p : Nat} {s : Rd} (D : R0 L h0 h b n s) (ok : okR b n s) (hp : p ≤ n) (hq9 : h.2.1 347 9 = (p : Int)) : RN 136 0 [some (.inr (.inr (some (347)))), none] [] h 0 0 (fun v h2 => Rr L h0 h2 b n (sk b n p, s.2) ∧ v = none) := by
  have hm : mrec 136 = some nM136 := rfl
  obtain ⟨g1, C, SM, dl, dn, db, dbr, df, da, dd, dc, dv⟩ := id D
  refine r_aload_n hm rfl (k := ?_)
  refine r_getI (hm := hm) (hf := rfl) (hd := rfl) (hs := (by first | assumption | exact (g1.1 _).trans rfl)) (hv := (by first | exact putI_eq | exact (putI_ne (by omega)).trans (by first | exact putI_eq | exact (putI_ne (by omega)).trans (by first | first | assumption | exact g1.2 _ _ _ rfl | exact db _ (by omega) | exact dd _ (by omega) | exact dc _ (by omega) | exact dv _ (by omega) | exact hq9) | first | assumption | exact g1.2 _ _ _ rfl | exact db _ (by omega) | exact dd _ (by omega) | exact dc _ (by omega) | exact dv _ (by omega) | exact hq9) | first | assumption | exact g1.2 _ _ _ rfl | exact db _ (by omega) | exact dd _ (by omega) | exact dc _ (by omega) | exact dv _ (by omega) | exact hq9)) (k := ?_)
  refine r_istore_n hm rfl (k := ?_)
  suffices LP : ∀ (d p2 : Nat), p2 + d = n → sk b n p2 = sk b n p → RN 136 5 [some (.inr (.inr (some (347)))), some (.inl (p2 : Int))] [] h 0 0 (fun v h2 => Rr L h0 h2 b n (sk b n p, s.2) ∧ v = none) from LP (n - p) p (by omega) rfl
  refine fun d => Nat.strongRecOn d (fun d ih => ?_)
  intro p2 hd eP
  refine r_iload_n hm rfl (k := ?_)
  refine r_aload_n hm rfl (k := ?_)
  refine r_getI (hm := hm) (hf := rfl) (hd := rfl) (hs := (by first | assumption | exact (g1.1 _).trans rfl)) (hv := (by first | exact putI_eq | exact (putI_ne (by omega)).trans (by first | exact putI_eq | exact (putI_ne (by omega)).trans (by first | first | assumption | exact g1.2 _ _ _ rfl | exact db _ (by omega) | exact dd _ (by omega) | exact dc _ (by omega) | exact dv _ (by omega) | exact hq9) | first | assumption | exact g1.2 _ _ _ rfl | exact db _ (by omega) | exact dd _ (by omega) | exact dc _ (by omega) | exact dv _ (by omega) | exact hq9) | first | assumption | exact g1.2 _ _ _ rfl | exact db _ (by omega) | exact dd _ (by omega) | exact dc _ (by omega) | exact dv _ (by omega) | exact hq9)) (k := ?_)
  refine r_icmp_ge (t := 30) hm rfl rfl (fun c10 => ?_) (fun c10 => ?_)
  · have eQ : sk b n p2 = p2 := sk_st (fun _ => by omega)
    rw [eQ] at eP
    refine r_aload_n hm rfl (k := ?_)
    refine r_iload_n hm rfl (k := ?_)
    refine r_putI (hm := hm) (hf := rfl) (hd := rfl) (hs := (by first | assumption | exact (g1.1 _).trans rfl)) (hfin := Or.inl rfl) (hz := fun q9 => absurd q9 (by decide)) (k := ?_)
    refine r_aload_n hm rfl (k := ?_)
    refine r_iload_n hm rfl (k := ?_)
    refine r_aload_n hm rfl (k := ?_)
    refine r_getI (hm := hm) (hf := rfl) (hd := rfl) (hs := (by first | assumption | exact (g1.1 _).trans rfl)) (hv := (by first | exact putI_eq | exact (putI_ne (by omega)).trans (by first | exact putI_eq | exact (putI_ne (by omega)).trans (by first | first | assumption | exact g1.2 _ _ _ rfl | exact db _ (by omega) | exact dd _ (by omega) | exact dc _ (by omega) | exact dv _ (by omega) | exact hq9) | first | assumption | exact g1.2 _ _ _ rfl | exact db _ (by omega) | exact dd _ (by omega) | exact dc _ (by omega) | exact dv _ (by omega) | exact hq9) | first | assumption | exact g1.2 _ _ _ rfl | exact db _ (by omega) | exact dd _ (by omega) | exact dc _ (by omega) | exact dv _ (by omega) | exact hq9)) (k := ?_)
    refine r_icmp_ge (t := 56) hm rfl rfl (fun c41 => ?_) (fun c41 => ?_)
    · refine r_iconst hm rfl (k := ?_)
      refine r_putI (hm := hm) (hf := rfl) (hd := rfl) (hs := (by first | assumption | exact (g1.1 _).trans rfl)) (hfin := Or.inl rfl) (hz := fun q9 => absurd q9 (by decide)) (k := ?_)
      have ok1 : okR b n (sk b n p, s.2) := ⟨(sk_rng hp).2.1, sk_sk hp, ok.2.2⟩
      rw [← eP]
      rw [← eP] at ok1
      refine RN.abs (fun h1 => R0 L h0 h1 b n s ∧ h1.2.1 347 7 = tkz b n p2 ∧ h1.2.1 347 8 = (p2 : Int)) ⟨R0.pT (R0.pT D (by omega)) (by omega), ?_, ?_⟩ (fun h1 H9 => ?_)
      · rw [putI_eq]; unfold tkz; rw [if_neg (by omega)]
      · rw [putI_ne (by omega), putI_eq]
      obtain ⟨D1, t7, t8⟩ := H9
      clear ih D g1 C SM dl dn db dbr df da dd dc dv
      obtain ⟨g1, C, SM, dl, dn, db, dbr, df, da, dd, dc, dv⟩ := id D1
      refine r_iload_n hm rfl (k := ?_)
      refine r_aload_n hm rfl (k := ?_)
      refine r_getI (hm := hm) (hf := rfl) (hd := rfl) (hs := (by first | assumption | exact (g1.1 _).trans rfl)) (hv := (by first | exact putI_eq | exact (putI_ne (by omega)).trans (by first | exact putI_eq | exact (putI_ne (by omega)).trans (by first | first | assumption | exact g1.2 _ _ _ rfl | exact db _ (by omega) | exact dd _ (by omega) | exact dc _ (by omega) | exact dv _ (by omega) | exact hq9) | first | assumption | exact g1.2 _ _ _ rfl | exact db _ (by omega) | exact dd _ (by omega) | exact dc _ (by omega) | exact dv _ (by omega) | exact hq9) | first | assumption | exact g1.2 _ _ _ rfl | exact db _ (by omega) | exact dd _ (by omega) | exact dc _ (by omega) | exact dv _ (by omega) | exact hq9)) (k := ?_)
      refine r_icmp_ge (t := 71) hm rfl rfl (fun c65 => ?_) (fun c65 => ?_)
      · suffices LP2 : ∀ (d q : Nat), q + d = n → ((tkz b n p2 = 1 ∨ tkz b n p2 = 2) → tez b n p2 = ruN b (tkz b n p2) (n - q) q) → (¬ (tkz b n p2 = 1 ∨ tkz b n p2 = 2) → tez b n p2 = q) → RN 136 71 [some (.inr (.inr (some (347)))), some (.inl (q : Int))] [] h1 0 0 (fun v h2 => Rr L h0 h2 b n (p2, s.2) ∧ v = none) from LP2 0 p2 (by omega) (fun z => by unfold tkz at z; rw [if_neg (by omega)] at z; omega) (fun z => by unfold tez; rw [if_neg (by omega)])
        refine fun d => Nat.strongRecOn d (fun d ih => ?_)
        intro q hd eA eB
        have k9 := ruN_go (b := b) (t := tkz b n p2) (d := n - q) (p := q)
        refine r_iload_n hm rfl (k := ?_)
        refine r_aload_n hm rfl (k := ?_)
        refine r_getI (hm := hm) (hf := rfl) (hd := rfl) (hs := (by first | assumption | exact (g1.1 _).trans rfl)) (hv := (by first | exact putI_eq | exact (putI_ne (by omega)).trans (by first | exact putI_eq | exact (putI_ne (by omega)).trans (by first | first | assumption | exact g1.2 _ _ _ rfl | exact db _ (by omega) | exact dd _ (by omega) | exact dc _ (by omega) | exact dv _ (by omega) | exact hq9) | first | assumption | exact g1.2 _ _ _ rfl | exact db _ (by omega) | exact dd _ (by omega) | exact dc _ (by omega) | exact dv _ (by omega) | exact hq9) | first | assumption | exact g1.2 _ _ _ rfl | exact db _ (by omega) | exact dd _ (by omega) | exact dc _ (by omega) | exact dv _ (by omega) | exact hq9)) (k := ?_)
        refine r_icmp_ge (t := 117) hm rfl rfl (fun c76 => ?_) (fun c76 => ?_)
        · refine r_aload_n hm rfl (k := ?_)
          refine r_iload_n hm rfl (k := ?_)
          refine r_putI (hm := hm) (hf := rfl) (hd := rfl) (hs := (by first | assumption | exact (g1.1 _).trans rfl)) (hfin := Or.inl rfl) (hz := fun q9 => absurd q9 (by decide)) (k := ?_)
          refine r_return hm rfl rfl (Nat.le_of_ble_eq_true rfl) (Nat.le_of_ble_eq_true rfl) ?_
          have eE : tez b n p2 = q := by
            by_cases z : tkz b n p2 = 1 ∨ tkz b n p2 = 2
            · rw [eA z, show n - q = 0 by omega]; rfl
            · exact eB z
          refine ⟨⟨R0.pT D1 (by omega), ok1, ?_, ?_, ?_⟩, rfl⟩
          · rw [putI_ne (by omega)]; exact t7
          · rw [putI_ne (by omega)]; exact t8
          · rw [putI_eq, eE]
        · refine r_aload_n hm rfl (k := ?_)
          refine r_getI (hm := hm) (hf := rfl) (hd := rfl) (hs := (by first | assumption | exact (g1.1 _).trans rfl)) (hv := (by first | exact putI_eq | exact (putI_ne (by omega)).trans (by first | exact putI_eq | exact (putI_ne (by omega)).trans (by first | first | assumption | exact g1.2 _ _ _ rfl | exact db _ (by omega) | exact dd _ (by omega) | exact dc _ (by omega) | exact dv _ (by omega) | exact hq9) | first | assumption | exact g1.2 _ _ _ rfl | exact db _ (by omega) | exact dd _ (by omega) | exact dc _ (by omega) | exact dv _ (by omega) | exact hq9) | first | assumption | exact g1.2 _ _ _ rfl | exact db _ (by omega) | exact dd _ (by omega) | exact dc _ (by omega) | exact dv _ (by omega) | exact hq9)) (k := ?_)
          refine r_iconst hm rfl (k := ?_)
          refine r_icmp_eq (t := 95) hm rfl rfl (fun c84 => ?_) (fun c84 => ?_)
          · refine r_aload_n hm rfl (k := ?_)
            refine r_getR (hm := hm) (hf := rfl) (hd := rfl) (hs := (by first | assumption | exact (g1.1 _).trans rfl)) (hv := (by first | exact putI_eq | exact (putI_ne (by omega)).trans (by first | exact putI_eq | exact (putI_ne (by omega)).trans (by first | first | assumption | exact g1.2 _ _ _ rfl | exact db _ (by omega) | exact dd _ (by omega) | exact dc _ (by omega) | exact dv _ (by omega) | exact hq9) | first | assumption | exact g1.2 _ _ _ rfl | exact db _ (by omega) | exact dd _ (by omega) | exact dc _ (by omega) | exact dv _ (by omega) | exact hq9) | first | assumption | exact g1.2 _ _ _ rfl | exact db _ (by omega) | exact dd _ (by omega) | exact dc _ (by omega) | exact dv _ (by omega) | exact hq9)) (k := ?_)
            refine r_iload_n hm rfl (k := ?_)
            refine r_iald (hm := hm) (hf := rfl) (hs := (by first | assumption | exact (g1.1 _).trans rfl)) (kk := q) (hi := by omega) (hn := (by omega)) (hv := (by first | exact putI_eq | exact (putI_ne (by omega)).trans (by first | exact putI_eq | exact (putI_ne (by omega)).trans (by first | first | assumption | exact g1.2 _ _ _ rfl | exact db _ (by omega) | exact dd _ (by omega) | exact dc _ (by omega) | exact dv _ (by omega) | exact hq9) | first | assumption | exact g1.2 _ _ _ rfl | exact db _ (by omega) | exact dd _ (by omega) | exact dc _ (by omega) | exact dv _ (by omega) | exact hq9) | first | assumption | exact g1.2 _ _ _ rfl | exact db _ (by omega) | exact dd _ (by omega) | exact dc _ (by omega) | exact dv _ (by omega) | exact hq9)) (k := ?_)
            refine r_calls (j2 := 137) hm rfl rfl rfl rfl rfl rfl (Nat.le_of_ble_eq_true rfl) (Nat.le_of_ble_eq_true rfl) rfl ⟨Nat.le_of_ble_eq_true rfl, Nat.le_of_ble_eq_true rfl, Nat.le_of_ble_eq_true rfl, Nat.le_of_ble_eq_true rfl, Nat.le_of_ble_eq_true rfl⟩ rfl (c_sortOf) (fun v9 h9 p9 => ?_)
            obtain ⟨e1, e2⟩ := p9
            subst e2
            replace e1 := e1.symm
            subst e1
            change RN 136 104 _ _ _ 0 0 _
            dsimp only [Option.toList, List.cons_append, List.nil_append]
            refine r_aload_n hm rfl (k := ?_)
            refine r_getI (hm := hm) (hf := rfl) (hd := rfl) (hs := (by first | assumption | exact (g1.1 _).trans rfl)) (hv := (by first | exact putI_eq | exact (putI_ne (by omega)).trans (by first | exact putI_eq | exact (putI_ne (by omega)).trans (by first | first | assumption | exact g1.2 _ _ _ rfl | exact db _ (by omega) | exact dd _ (by omega) | exact dc _ (by omega) | exact dv _ (by omega) | exact hq9) | first | assumption | exact g1.2 _ _ _ rfl | exact db _ (by omega) | exact dd _ (by omega) | exact dc _ (by omega) | exact dv _ (by omega) | exact hq9) | first | assumption | exact g1.2 _ _ _ rfl | exact db _ (by omega) | exact dd _ (by omega) | exact dc _ (by omega) | exact dv _ (by omega) | exact hq9)) (k := ?_)
            refine r_icmp_ne (t := 117) hm rfl rfl (fun c108 => ?_) (fun c108 => ?_)
            · refine r_aload_n hm rfl (k := ?_)
              refine r_iload_n hm rfl (k := ?_)
              refine r_putI (hm := hm) (hf := rfl) (hd := rfl) (hs := (by first | assumption | exact (g1.1 _).trans rfl)) (hfin := Or.inl rfl) (hz := fun q9 => absurd q9 (by decide)) (k := ?_)
              refine r_return hm rfl rfl (Nat.le_of_ble_eq_true rfl) (Nat.le_of_ble_eq_true rfl) ?_
              have eE : tez b n p2 = q := by
                rw [eA (by omega), k9 (by omega), if_neg (by omega)]
              refine ⟨⟨R0.pT D1 (by omega), ok1, ?_, ?_, ?_⟩, rfl⟩
              · rw [putI_ne (by omega)]; exact t7
              · rw [putI_ne (by omega)]; exact t8
              · rw [putI_eq, eE]
            · refine r_iinc hm rfl (hr := (by omega)) (k := ?_)
              refine r_goto (t := 71) hm rfl (k := ?_)
              refine ih (d - 1) (by omega) (q + 1) (by omega) (fun z => ?_) (fun z => by omega)
              rw [eA z, k9 (by omega), if_pos (by omega), show n - q - 1 = n - (q + 1) by omega]
          · refine r_aload_n hm rfl (k := ?_)
            refine r_getI (hm := hm) (hf := rfl) (hd := rfl) (hs := (by first | assumption | exact (g1.1 _).trans rfl)) (hv := (by first | exact putI_eq | exact (putI_ne (by omega)).trans (by first | exact putI_eq | exact (putI_ne (by omega)).trans (by first | first | assumption | exact g1.2 _ _ _ rfl | exact db _ (by omega) | exact dd _ (by omega) | exact dc _ (by omega) | exact dv _ (by omega) | exact hq9) | first | assumption | exact g1.2 _ _ _ rfl | exact db _ (by omega) | exact dd _ (by omega) | exact dc _ (by omega) | exact dv _ (by omega) | exact hq9) | first | assumption | exact g1.2 _ _ _ rfl | exact db _ (by omega) | exact dd _ (by omega) | exact dc _ (by omega) | exact dv _ (by omega) | exact hq9)) (k := ?_)
            refine r_iconst hm rfl (k := ?_)
            refine r_icmp_ne (t := 117) hm rfl rfl (fun c92 => ?_) (fun c92 => ?_)
            · refine r_aload_n hm rfl (k := ?_)
              refine r_iload_n hm rfl (k := ?_)
              refine r_putI (hm := hm) (hf := rfl) (hd := rfl) (hs := (by first | assumption | exact (g1.1 _).trans rfl)) (hfin := Or.inl rfl) (hz := fun q9 => absurd q9 (by decide)) (k := ?_)
              refine r_return hm rfl rfl (Nat.le_of_ble_eq_true rfl) (Nat.le_of_ble_eq_true rfl) ?_
              have eE : tez b n p2 = q := eB (by omega)
              refine ⟨⟨R0.pT D1 (by omega), ok1, ?_, ?_, ?_⟩, rfl⟩
              · rw [putI_ne (by omega)]; exact t7
              · rw [putI_ne (by omega)]; exact t8
              · rw [putI_eq, eE]
            · refine r_aload_n hm rfl (k := ?_)
              refine r_getR (hm := hm) (hf := rfl) (hd := rfl) (hs := (by first | assumption | exact (g1.1 _).trans rfl)) (hv := (by first | exact putI_eq | exact (putI_ne (by omega)).trans (by first | exact putI_eq | exact (putI_ne (by omega)).trans (by first | first | assumption | exact g1.2 _ _ _ rfl | exact db _ (by omega) | exact dd _ (by omega) | exact dc _ (by omega) | exact dv _ (by omega) | exact hq9) | first | assumption | exact g1.2 _ _ _ rfl | exact db _ (by omega) | exact dd _ (by omega) | exact dc _ (by omega) | exact dv _ (by omega) | exact hq9) | first | assumption | exact g1.2 _ _ _ rfl | exact db _ (by omega) | exact dd _ (by omega) | exact dc _ (by omega) | exact dv _ (by omega) | exact hq9)) (k := ?_)
              refine r_iload_n hm rfl (k := ?_)
              refine r_iald (hm := hm) (hf := rfl) (hs := (by first | assumption | exact (g1.1 _).trans rfl)) (kk := q) (hi := by omega) (hn := (by omega)) (hv := (by first | exact putI_eq | exact (putI_ne (by omega)).trans (by first | exact putI_eq | exact (putI_ne (by omega)).trans (by first | first | assumption | exact g1.2 _ _ _ rfl | exact db _ (by omega) | exact dd _ (by omega) | exact dc _ (by omega) | exact dv _ (by omega) | exact hq9) | first | assumption | exact g1.2 _ _ _ rfl | exact db _ (by omega) | exact dd _ (by omega) | exact dc _ (by omega) | exact dv _ (by omega) | exact hq9) | first | assumption | exact g1.2 _ _ _ rfl | exact db _ (by omega) | exact dd _ (by omega) | exact dc _ (by omega) | exact dv _ (by omega) | exact hq9)) (k := ?_)
              refine r_calls (j2 := 137) hm rfl rfl rfl rfl rfl rfl (Nat.le_of_ble_eq_true rfl) (Nat.le_of_ble_eq_true rfl) rfl ⟨Nat.le_of_ble_eq_true rfl, Nat.le_of_ble_eq_true rfl, Nat.le_of_ble_eq_true rfl, Nat.le_of_ble_eq_true rfl, Nat.le_of_ble_eq_true rfl⟩ rfl (c_sortOf) (fun v9 h9 p9 => ?_)
              obtain ⟨e1, e2⟩ := p9
              subst e2
              replace e1 := e1.symm
              subst e1
              change RN 136 104 _ _ _ 0 0 _
              dsimp only [Option.toList, List.cons_append, List.nil_append]
              refine r_aload_n hm rfl (k := ?_)
              refine r_getI (hm := hm) (hf := rfl) (hd := rfl) (hs := (by first | assumption | exact (g1.1 _).trans rfl)) (hv := (by first | exact putI_eq | exact (putI_ne (by omega)).trans (by first | exact putI_eq | exact (putI_ne (by omega)).trans (by first | first | assumption | exact g1.2 _ _ _ rfl | exact db _ (by omega) | exact dd _ (by omega) | exact dc _ (by omega) | exact dv _ (by omega) | exact hq9) | first | assumption | exact g1.2 _ _ _ rfl | exact db _ (by omega) | exact dd _ (by omega) | exact dc _ (by omega) | exact dv _ (by omega) | exact hq9) | first | assumption | exact g1.2 _ _ _ rfl | exact db _ (by omega) | exact dd _ (by omega) | exact dc _ (by omega) | exact dv _ (by omega) | exact hq9)) (k := ?_)
              refine r_icmp_ne (t := 117) hm rfl rfl (fun c108 => ?_) (fun c108 => ?_)
              · refine r_aload_n hm rfl (k := ?_)
                refine r_iload_n hm rfl (k := ?_)
                refine r_putI (hm := hm) (hf := rfl) (hd := rfl) (hs := (by first | assumption | exact (g1.1 _).trans rfl)) (hfin := Or.inl rfl) (hz := fun q9 => absurd q9 (by decide)) (k := ?_)
                refine r_return hm rfl rfl (Nat.le_of_ble_eq_true rfl) (Nat.le_of_ble_eq_true rfl) ?_
                have eE : tez b n p2 = q := by
                  rw [eA (by omega), k9 (by omega), if_neg (by omega)]
                refine ⟨⟨R0.pT D1 (by omega), ok1, ?_, ?_, ?_⟩, rfl⟩
                · rw [putI_ne (by omega)]; exact t7
                · rw [putI_ne (by omega)]; exact t8
                · rw [putI_eq, eE]
              · refine r_iinc hm rfl (hr := (by omega)) (k := ?_)
                refine r_goto (t := 71) hm rfl (k := ?_)
                refine ih (d - 1) (by omega) (q + 1) (by omega) (fun z => ?_) (fun z => by omega)
                rw [eA z, k9 (by omega), if_pos (by omega), show n - q - 1 = n - (q + 1) by omega]
      · exfalso; omega
    · exfalso; omega
  · refine r_aload_n hm rfl (k := ?_)
    refine r_getR (hm := hm) (hf := rfl) (hd := rfl) (hs := (by first | assumption | exact (g1.1 _).trans rfl)) (hv := (by first | exact putI_eq | exact (putI_ne (by omega)).trans (by first | exact putI_eq | exact (putI_ne (by omega)).trans (by first | first | assumption | exact g1.2 _ _ _ rfl | exact db _ (by omega) | exact dd _ (by omega) | exact dc _ (by omega) | exact dv _ (by omega) | exact hq9) | first | assumption | exact g1.2 _ _ _ rfl | exact db _ (by omega) | exact dd _ (by omega) | exact dc _ (by omega) | exact dv _ (by omega) | exact hq9) | first | assumption | exact g1.2 _ _ _ rfl | exact db _ (by omega) | exact dd _ (by omega) | exact dc _ (by omega) | exact dv _ (by omega) | exact hq9)) (k := ?_)
    refine r_iload_n hm rfl (k := ?_)
    refine r_iald (hm := hm) (hf := rfl) (hs := (by first | assumption | exact (g1.1 _).trans rfl)) (kk := p2) (hi := by omega) (hn := (by omega)) (hv := (by first | exact putI_eq | exact (putI_ne (by omega)).trans (by first | exact putI_eq | exact (putI_ne (by omega)).trans (by first | first | assumption | exact g1.2 _ _ _ rfl | exact db _ (by omega) | exact dd _ (by omega) | exact dc _ (by omega) | exact dv _ (by omega) | exact hq9) | first | assumption | exact g1.2 _ _ _ rfl | exact db _ (by omega) | exact dd _ (by omega) | exact dc _ (by omega) | exact dv _ (by omega) | exact hq9) | first | assumption | exact g1.2 _ _ _ rfl | exact db _ (by omega) | exact dd _ (by omega) | exact dc _ (by omega) | exact dv _ (by omega) | exact hq9)) (k := ?_)
    refine r_bipush hm rfl (k := ?_)
    refine r_icmp_ne (t := 30) hm rfl rfl (fun c21 => ?_) (fun c21 => ?_)
    · have eQ : sk b n p2 = p2 := sk_st (fun _ => by omega)
      rw [eQ] at eP
      refine r_aload_n hm rfl (k := ?_)
      refine r_iload_n hm rfl (k := ?_)
      refine r_putI (hm := hm) (hf := rfl) (hd := rfl) (hs := (by first | assumption | exact (g1.1 _).trans rfl)) (hfin := Or.inl rfl) (hz := fun q9 => absurd q9 (by decide)) (k := ?_)
      refine r_aload_n hm rfl (k := ?_)
      refine r_iload_n hm rfl (k := ?_)
      refine r_aload_n hm rfl (k := ?_)
      refine r_getI (hm := hm) (hf := rfl) (hd := rfl) (hs := (by first | assumption | exact (g1.1 _).trans rfl)) (hv := (by first | exact putI_eq | exact (putI_ne (by omega)).trans (by first | exact putI_eq | exact (putI_ne (by omega)).trans (by first | first | assumption | exact g1.2 _ _ _ rfl | exact db _ (by omega) | exact dd _ (by omega) | exact dc _ (by omega) | exact dv _ (by omega) | exact hq9) | first | assumption | exact g1.2 _ _ _ rfl | exact db _ (by omega) | exact dd _ (by omega) | exact dc _ (by omega) | exact dv _ (by omega) | exact hq9) | first | assumption | exact g1.2 _ _ _ rfl | exact db _ (by omega) | exact dd _ (by omega) | exact dc _ (by omega) | exact dv _ (by omega) | exact hq9)) (k := ?_)
      refine r_icmp_ge (t := 56) hm rfl rfl (fun c41 => ?_) (fun c41 => ?_)
      · refine r_iconst hm rfl (k := ?_)
        refine r_putI (hm := hm) (hf := rfl) (hd := rfl) (hs := (by first | assumption | exact (g1.1 _).trans rfl)) (hfin := Or.inl rfl) (hz := fun q9 => absurd q9 (by decide)) (k := ?_)
        have ok1 : okR b n (sk b n p, s.2) := ⟨(sk_rng hp).2.1, sk_sk hp, ok.2.2⟩
        rw [← eP]
        rw [← eP] at ok1
        refine RN.abs (fun h1 => R0 L h0 h1 b n s ∧ h1.2.1 347 7 = tkz b n p2 ∧ h1.2.1 347 8 = (p2 : Int)) ⟨R0.pT (R0.pT D (by omega)) (by omega), ?_, ?_⟩ (fun h1 H9 => ?_)
        · rw [putI_eq]; unfold tkz; rw [if_neg (by omega)]
        · rw [putI_ne (by omega), putI_eq]
        obtain ⟨D1, t7, t8⟩ := H9
        clear ih D g1 C SM dl dn db dbr df da dd dc dv
        obtain ⟨g1, C, SM, dl, dn, db, dbr, df, da, dd, dc, dv⟩ := id D1
        refine r_iload_n hm rfl (k := ?_)
        refine r_aload_n hm rfl (k := ?_)
        refine r_getI (hm := hm) (hf := rfl) (hd := rfl) (hs := (by first | assumption | exact (g1.1 _).trans rfl)) (hv := (by first | exact putI_eq | exact (putI_ne (by omega)).trans (by first | exact putI_eq | exact (putI_ne (by omega)).trans (by first | first | assumption | exact g1.2 _ _ _ rfl | exact db _ (by omega) | exact dd _ (by omega) | exact dc _ (by omega) | exact dv _ (by omega) | exact hq9) | first | assumption | exact g1.2 _ _ _ rfl | exact db _ (by omega) | exact dd _ (by omega) | exact dc _ (by omega) | exact dv _ (by omega) | exact hq9) | first | assumption | exact g1.2 _ _ _ rfl | exact db _ (by omega) | exact dd _ (by omega) | exact dc _ (by omega) | exact dv _ (by omega) | exact hq9)) (k := ?_)
        refine r_icmp_ge (t := 71) hm rfl rfl (fun c65 => ?_) (fun c65 => ?_)
        · suffices LP2 : ∀ (d q : Nat), q + d = n → ((tkz b n p2 = 1 ∨ tkz b n p2 = 2) → tez b n p2 = ruN b (tkz b n p2) (n - q) q) → (¬ (tkz b n p2 = 1 ∨ tkz b n p2 = 2) → tez b n p2 = q) → RN 136 71 [some (.inr (.inr (some (347)))), some (.inl (q : Int))] [] h1 0 0 (fun v h2 => Rr L h0 h2 b n (p2, s.2) ∧ v = none) from LP2 0 p2 (by omega) (fun z => by unfold tkz at z; rw [if_neg (by omega)] at z; omega) (fun z => by unfold tez; rw [if_neg (by omega)])
          refine fun d => Nat.strongRecOn d (fun d ih => ?_)
          intro q hd eA eB
          have k9 := ruN_go (b := b) (t := tkz b n p2) (d := n - q) (p := q)
          refine r_iload_n hm rfl (k := ?_)
          refine r_aload_n hm rfl (k := ?_)
          refine r_getI (hm := hm) (hf := rfl) (hd := rfl) (hs := (by first | assumption | exact (g1.1 _).trans rfl)) (hv := (by first | exact putI_eq | exact (putI_ne (by omega)).trans (by first | exact putI_eq | exact (putI_ne (by omega)).trans (by first | first | assumption | exact g1.2 _ _ _ rfl | exact db _ (by omega) | exact dd _ (by omega) | exact dc _ (by omega) | exact dv _ (by omega) | exact hq9) | first | assumption | exact g1.2 _ _ _ rfl | exact db _ (by omega) | exact dd _ (by omega) | exact dc _ (by omega) | exact dv _ (by omega) | exact hq9) | first | assumption | exact g1.2 _ _ _ rfl | exact db _ (by omega) | exact dd _ (by omega) | exact dc _ (by omega) | exact dv _ (by omega) | exact hq9)) (k := ?_)
          refine r_icmp_ge (t := 117) hm rfl rfl (fun c76 => ?_) (fun c76 => ?_)
          · refine r_aload_n hm rfl (k := ?_)
            refine r_iload_n hm rfl (k := ?_)
            refine r_putI (hm := hm) (hf := rfl) (hd := rfl) (hs := (by first | assumption | exact (g1.1 _).trans rfl)) (hfin := Or.inl rfl) (hz := fun q9 => absurd q9 (by decide)) (k := ?_)
            refine r_return hm rfl rfl (Nat.le_of_ble_eq_true rfl) (Nat.le_of_ble_eq_true rfl) ?_
            have eE : tez b n p2 = q := by
              by_cases z : tkz b n p2 = 1 ∨ tkz b n p2 = 2
              · rw [eA z, show n - q = 0 by omega]; rfl
              · exact eB z
            refine ⟨⟨R0.pT D1 (by omega), ok1, ?_, ?_, ?_⟩, rfl⟩
            · rw [putI_ne (by omega)]; exact t7
            · rw [putI_ne (by omega)]; exact t8
            · rw [putI_eq, eE]
          · refine r_aload_n hm rfl (k := ?_)
            refine r_getI (hm := hm) (hf := rfl) (hd := rfl) (hs := (by first | assumption | exact (g1.1 _).trans rfl)) (hv := (by first | exact putI_eq | exact (putI_ne (by omega)).trans (by first | exact putI_eq | exact (putI_ne (by omega)).trans (by first | first | assumption | exact g1.2 _ _ _ rfl | exact db _ (by omega) | exact dd _ (by omega) | exact dc _ (by omega) | exact dv _ (by omega) | exact hq9) | first | assumption | exact g1.2 _ _ _ rfl | exact db _ (by omega) | exact dd _ (by omega) | exact dc _ (by omega) | exact dv _ (by omega) | exact hq9) | first | assumption | exact g1.2 _ _ _ rfl | exact db _ (by omega) | exact dd _ (by omega) | exact dc _ (by omega) | exact dv _ (by omega) | exact hq9)) (k := ?_)
            refine r_iconst hm rfl (k := ?_)
            refine r_icmp_eq (t := 95) hm rfl rfl (fun c84 => ?_) (fun c84 => ?_)
            · refine r_aload_n hm rfl (k := ?_)
              refine r_getR (hm := hm) (hf := rfl) (hd := rfl) (hs := (by first | assumption | exact (g1.1 _).trans rfl)) (hv := (by first | exact putI_eq | exact (putI_ne (by omega)).trans (by first | exact putI_eq | exact (putI_ne (by omega)).trans (by first | first | assumption | exact g1.2 _ _ _ rfl | exact db _ (by omega) | exact dd _ (by omega) | exact dc _ (by omega) | exact dv _ (by omega) | exact hq9) | first | assumption | exact g1.2 _ _ _ rfl | exact db _ (by omega) | exact dd _ (by omega) | exact dc _ (by omega) | exact dv _ (by omega) | exact hq9) | first | assumption | exact g1.2 _ _ _ rfl | exact db _ (by omega) | exact dd _ (by omega) | exact dc _ (by omega) | exact dv _ (by omega) | exact hq9)) (k := ?_)
              refine r_iload_n hm rfl (k := ?_)
              refine r_iald (hm := hm) (hf := rfl) (hs := (by first | assumption | exact (g1.1 _).trans rfl)) (kk := q) (hi := by omega) (hn := (by omega)) (hv := (by first | exact putI_eq | exact (putI_ne (by omega)).trans (by first | exact putI_eq | exact (putI_ne (by omega)).trans (by first | first | assumption | exact g1.2 _ _ _ rfl | exact db _ (by omega) | exact dd _ (by omega) | exact dc _ (by omega) | exact dv _ (by omega) | exact hq9) | first | assumption | exact g1.2 _ _ _ rfl | exact db _ (by omega) | exact dd _ (by omega) | exact dc _ (by omega) | exact dv _ (by omega) | exact hq9) | first | assumption | exact g1.2 _ _ _ rfl | exact db _ (by omega) | exact dd _ (by omega) | exact dc _ (by omega) | exact dv _ (by omega) | exact hq9)) (k := ?_)
              refine r_calls (j2 := 137) hm rfl rfl rfl rfl rfl rfl (Nat.le_of_ble_eq_true rfl) (Nat.le_of_ble_eq_true rfl) rfl ⟨Nat.le_of_ble_eq_true rfl, Nat.le_of_ble_eq_true rfl, Nat.le_of_ble_eq_true rfl, Nat.le_of_ble_eq_true rfl, Nat.le_of_ble_eq_true rfl⟩ rfl (c_sortOf) (fun v9 h9 p9 => ?_)
              obtain ⟨e1, e2⟩ := p9
              subst e2
              replace e1 := e1.symm
              subst e1
              change RN 136 104 _ _ _ 0 0 _
              dsimp only [Option.toList, List.cons_append, List.nil_append]
              refine r_aload_n hm rfl (k := ?_)
              refine r_getI (hm := hm) (hf := rfl) (hd := rfl) (hs := (by first | assumption | exact (g1.1 _).trans rfl)) (hv := (by first | exact putI_eq | exact (putI_ne (by omega)).trans (by first | exact putI_eq | exact (putI_ne (by omega)).trans (by first | first | assumption | exact g1.2 _ _ _ rfl | exact db _ (by omega) | exact dd _ (by omega) | exact dc _ (by omega) | exact dv _ (by omega) | exact hq9) | first | assumption | exact g1.2 _ _ _ rfl | exact db _ (by omega) | exact dd _ (by omega) | exact dc _ (by omega) | exact dv _ (by omega) | exact hq9) | first | assumption | exact g1.2 _ _ _ rfl | exact db _ (by omega) | exact dd _ (by omega) | exact dc _ (by omega) | exact dv _ (by omega) | exact hq9)) (k := ?_)
              refine r_icmp_ne (t := 117) hm rfl rfl (fun c108 => ?_) (fun c108 => ?_)
              · refine r_aload_n hm rfl (k := ?_)
                refine r_iload_n hm rfl (k := ?_)
                refine r_putI (hm := hm) (hf := rfl) (hd := rfl) (hs := (by first | assumption | exact (g1.1 _).trans rfl)) (hfin := Or.inl rfl) (hz := fun q9 => absurd q9 (by decide)) (k := ?_)
                refine r_return hm rfl rfl (Nat.le_of_ble_eq_true rfl) (Nat.le_of_ble_eq_true rfl) ?_
                have eE : tez b n p2 = q := by
                  rw [eA (by omega), k9 (by omega), if_neg (by omega)]
                refine ⟨⟨R0.pT D1 (by omega), ok1, ?_, ?_, ?_⟩, rfl⟩
                · rw [putI_ne (by omega)]; exact t7
                · rw [putI_ne (by omega)]; exact t8
                · rw [putI_eq, eE]
              · refine r_iinc hm rfl (hr := (by omega)) (k := ?_)
                refine r_goto (t := 71) hm rfl (k := ?_)
                refine ih (d - 1) (by omega) (q + 1) (by omega) (fun z => ?_) (fun z => by omega)
                rw [eA z, k9 (by omega), if_pos (by omega), show n - q - 1 = n - (q + 1) by omega]
            · refine r_aload_n hm rfl (k := ?_)
              refine r_getI (hm := hm) (hf := rfl) (hd := rfl) (hs := (by first | assumption | exact (g1.1 _).trans rfl)) (hv := (by first | exact putI_eq | exact (putI_ne (by omega)).trans (by first | exact putI_eq | exact (putI_ne (by omega)).trans (by first | first | assumption | exact g1.2 _ _ _ rfl | exact db _ (by omega) | exact dd _ (by omega) | exact dc _ (by omega) | exact dv _ (by omega) | exact hq9) | first | assumption | exact g1.2 _ _ _ rfl | exact db _ (by omega) | exact dd _ (by omega) | exact dc _ (by omega) | exact dv _ (by omega) | exact hq9) | first | assumption | exact g1.2 _ _ _ rfl | exact db _ (by omega) | exact dd _ (by omega) | exact dc _ (by omega) | exact dv _ (by omega) | exact hq9)) (k := ?_)
              refine r_iconst hm rfl (k := ?_)
              refine r_icmp_ne (t := 117) hm rfl rfl (fun c92 => ?_) (fun c92 => ?_)
              · refine r_aload_n hm rfl (k := ?_)
                refine r_iload_n hm rfl (k := ?_)
                refine r_putI (hm := hm) (hf := rfl) (hd := rfl) (hs := (by first | assumption | exact (g1.1 _).trans rfl)) (hfin := Or.inl rfl) (hz := fun q9 => absurd q9 (by decide)) (k := ?_)
                refine r_return hm rfl rfl (Nat.le_of_ble_eq_true rfl) (Nat.le_of_ble_eq_true rfl) ?_
                have eE : tez b n p2 = q := eB (by omega)
                refine ⟨⟨R0.pT D1 (by omega), ok1, ?_, ?_, ?_⟩, rfl⟩
                · rw [putI_ne (by omega)]; exact t7
                · rw [putI_ne (by omega)]; exact t8
                · rw [putI_eq, eE]
              · refine r_aload_n hm rfl (k := ?_)
                refine r_getR (hm := hm) (hf := rfl) (hd := rfl) (hs := (by first | assumption | exact (g1.1 _).trans rfl)) (hv := (by first | exact putI_eq | exact (putI_ne (by omega)).trans (by first | exact putI_eq | exact (putI_ne (by omega)).trans (by first | first | assumption | exact g1.2 _ _ _ rfl | exact db _ (by omega) | exact dd _ (by omega) | exact dc _ (by omega) | exact dv _ (by omega) | exact hq9) | first | assumption | exact g1.2 _ _ _ rfl | exact db _ (by omega) | exact dd _ (by omega) | exact dc _ (by omega) | exact dv _ (by omega) | exact hq9) | first | assumption | exact g1.2 _ _ _ rfl | exact db _ (by omega) | exact dd _ (by omega) | exact dc _ (by omega) | exact dv _ (by omega) | exact hq9)) (k := ?_)
                refine r_iload_n hm rfl (k := ?_)
                refine r_iald (hm := hm) (hf := rfl) (hs := (by first | assumption | exact (g1.1 _).trans rfl)) (kk := q) (hi := by omega) (hn := (by omega)) (hv := (by first | exact putI_eq | exact (putI_ne (by omega)).trans (by first | exact putI_eq | exact (putI_ne (by omega)).trans (by first | first | assumption | exact g1.2 _ _ _ rfl | exact db _ (by omega) | exact dd _ (by omega) | exact dc _ (by omega) | exact dv _ (by omega) | exact hq9) | first | assumption | exact g1.2 _ _ _ rfl | exact db _ (by omega) | exact dd _ (by omega) | exact dc _ (by omega) | exact dv _ (by omega) | exact hq9) | first | assumption | exact g1.2 _ _ _ rfl | exact db _ (by omega) | exact dd _ (by omega) | exact dc _ (by omega) | exact dv _ (by omega) | exact hq9)) (k := ?_)
                refine r_calls (j2 := 137) hm rfl rfl rfl rfl rfl rfl (Nat.le_of_ble_eq_true rfl) (Nat.le_of_ble_eq_true rfl) rfl ⟨Nat.le_of_ble_eq_true rfl, Nat.le_of_ble_eq_true rfl, Nat.le_of_ble_eq_true rfl, Nat.le_of_ble_eq_true rfl, Nat.le_of_ble_eq_true rfl⟩ rfl (c_sortOf) (fun v9 h9 p9 => ?_)
                obtain ⟨e1, e2⟩ := p9
                subst e2
                replace e1 := e1.symm
                subst e1
                change RN 136 104 _ _ _ 0 0 _
                dsimp only [Option.toList, List.cons_append, List.nil_append]
                refine r_aload_n hm rfl (k := ?_)
                refine r_getI (hm := hm) (hf := rfl) (hd := rfl) (hs := (by first | assumption | exact (g1.1 _).trans rfl)) (hv := (by first | exact putI_eq | exact (putI_ne (by omega)).trans (by first | exact putI_eq | exact (putI_ne (by omega)).trans (by first | first | assumption | exact g1.2 _ _ _ rfl | exact db _ (by omega) | exact dd _ (by omega) | exact dc _ (by omega) | exact dv _ (by omega) | exact hq9) | first | assumption | exact g1.2 _ _ _ rfl | exact db _ (by omega) | exact dd _ (by omega) | exact dc _ (by omega) | exact dv _ (by omega) | exact hq9) | first | assumption | exact g1.2 _ _ _ rfl | exact db _ (by omega) | exact dd _ (by omega) | exact dc _ (by omega) | exact dv _ (by omega) | exact hq9)) (k := ?_)
                refine r_icmp_ne (t := 117) hm rfl rfl (fun c108 => ?_) (fun c108 => ?_)
                · refine r_aload_n hm rfl (k := ?_)
                  refine r_iload_n hm rfl (k := ?_)
                  refine r_putI (hm := hm) (hf := rfl) (hd := rfl) (hs := (by first | assumption | exact (g1.1 _).trans rfl)) (hfin := Or.inl rfl) (hz := fun q9 => absurd q9 (by decide)) (k := ?_)
                  refine r_return hm rfl rfl (Nat.le_of_ble_eq_true rfl) (Nat.le_of_ble_eq_true rfl) ?_
                  have eE : tez b n p2 = q := by
                    rw [eA (by omega), k9 (by omega), if_neg (by omega)]
                  refine ⟨⟨R0.pT D1 (by omega), ok1, ?_, ?_, ?_⟩, rfl⟩
                  · rw [putI_ne (by omega)]; exact t7
                  · rw [putI_ne (by omega)]; exact t8
                  · rw [putI_eq, eE]
                · refine r_iinc hm rfl (hr := (by omega)) (k := ?_)
                  refine r_goto (t := 71) hm rfl (k := ?_)
                  refine ih (d - 1) (by omega) (q + 1) (by omega) (fun z => ?_) (fun z => by omega)
                  rw [eA z, k9 (by omega), if_pos (by omega), show n - q - 1 = n - (q + 1) by omega]
        · refine r_iinc hm rfl (hr := (by omega)) (k := ?_)
          suffices LP2 : ∀ (d q : Nat), q + d = n → ((tkz b n p2 = 1 ∨ tkz b n p2 = 2) → tez b n p2 = ruN b (tkz b n p2) (n - q) q) → (¬ (tkz b n p2 = 1 ∨ tkz b n p2 = 2) → tez b n p2 = q) → RN 136 71 [some (.inr (.inr (some (347)))), some (.inl (q : Int))] [] h1 0 0 (fun v h2 => Rr L h0 h2 b n (p2, s.2) ∧ v = none) from LP2 (n - (p2 + 1)) (p2 + 1) (by omega) (fun z => by unfold tez; rw [if_pos (by omega), if_pos z]) (fun z => by unfold tez; rw [if_pos (by omega), if_neg z])
          refine fun d => Nat.strongRecOn d (fun d ih => ?_)
          intro q hd eA eB
          have k9 := ruN_go (b := b) (t := tkz b n p2) (d := n - q) (p := q)
          refine r_iload_n hm rfl (k := ?_)
          refine r_aload_n hm rfl (k := ?_)
          refine r_getI (hm := hm) (hf := rfl) (hd := rfl) (hs := (by first | assumption | exact (g1.1 _).trans rfl)) (hv := (by first | exact putI_eq | exact (putI_ne (by omega)).trans (by first | exact putI_eq | exact (putI_ne (by omega)).trans (by first | first | assumption | exact g1.2 _ _ _ rfl | exact db _ (by omega) | exact dd _ (by omega) | exact dc _ (by omega) | exact dv _ (by omega) | exact hq9) | first | assumption | exact g1.2 _ _ _ rfl | exact db _ (by omega) | exact dd _ (by omega) | exact dc _ (by omega) | exact dv _ (by omega) | exact hq9) | first | assumption | exact g1.2 _ _ _ rfl | exact db _ (by omega) | exact dd _ (by omega) | exact dc _ (by omega) | exact dv _ (by omega) | exact hq9)) (k := ?_)
          refine r_icmp_ge (t := 117) hm rfl rfl (fun c76 => ?_) (fun c76 => ?_)
          · refine r_aload_n hm rfl (k := ?_)
            refine r_iload_n hm rfl (k := ?_)
            refine r_putI (hm := hm) (hf := rfl) (hd := rfl) (hs := (by first | assumption | exact (g1.1 _).trans rfl)) (hfin := Or.inl rfl) (hz := fun q9 => absurd q9 (by decide)) (k := ?_)
            refine r_return hm rfl rfl (Nat.le_of_ble_eq_true rfl) (Nat.le_of_ble_eq_true rfl) ?_
            have eE : tez b n p2 = q := by
              by_cases z : tkz b n p2 = 1 ∨ tkz b n p2 = 2
              · rw [eA z, show n - q = 0 by omega]; rfl
              · exact eB z
            refine ⟨⟨R0.pT D1 (by omega), ok1, ?_, ?_, ?_⟩, rfl⟩
            · rw [putI_ne (by omega)]; exact t7
            · rw [putI_ne (by omega)]; exact t8
            · rw [putI_eq, eE]
          · refine r_aload_n hm rfl (k := ?_)
            refine r_getI (hm := hm) (hf := rfl) (hd := rfl) (hs := (by first | assumption | exact (g1.1 _).trans rfl)) (hv := (by first | exact putI_eq | exact (putI_ne (by omega)).trans (by first | exact putI_eq | exact (putI_ne (by omega)).trans (by first | first | assumption | exact g1.2 _ _ _ rfl | exact db _ (by omega) | exact dd _ (by omega) | exact dc _ (by omega) | exact dv _ (by omega) | exact hq9) | first | assumption | exact g1.2 _ _ _ rfl | exact db _ (by omega) | exact dd _ (by omega) | exact dc _ (by omega) | exact dv _ (by omega) | exact hq9) | first | assumption | exact g1.2 _ _ _ rfl | exact db _ (by omega) | exact dd _ (by omega) | exact dc _ (by omega) | exact dv _ (by omega) | exact hq9)) (k := ?_)
            refine r_iconst hm rfl (k := ?_)
            refine r_icmp_eq (t := 95) hm rfl rfl (fun c84 => ?_) (fun c84 => ?_)
            · refine r_aload_n hm rfl (k := ?_)
              refine r_getR (hm := hm) (hf := rfl) (hd := rfl) (hs := (by first | assumption | exact (g1.1 _).trans rfl)) (hv := (by first | exact putI_eq | exact (putI_ne (by omega)).trans (by first | exact putI_eq | exact (putI_ne (by omega)).trans (by first | first | assumption | exact g1.2 _ _ _ rfl | exact db _ (by omega) | exact dd _ (by omega) | exact dc _ (by omega) | exact dv _ (by omega) | exact hq9) | first | assumption | exact g1.2 _ _ _ rfl | exact db _ (by omega) | exact dd _ (by omega) | exact dc _ (by omega) | exact dv _ (by omega) | exact hq9) | first | assumption | exact g1.2 _ _ _ rfl | exact db _ (by omega) | exact dd _ (by omega) | exact dc _ (by omega) | exact dv _ (by omega) | exact hq9)) (k := ?_)
              refine r_iload_n hm rfl (k := ?_)
              refine r_iald (hm := hm) (hf := rfl) (hs := (by first | assumption | exact (g1.1 _).trans rfl)) (kk := q) (hi := by omega) (hn := (by omega)) (hv := (by first | exact putI_eq | exact (putI_ne (by omega)).trans (by first | exact putI_eq | exact (putI_ne (by omega)).trans (by first | first | assumption | exact g1.2 _ _ _ rfl | exact db _ (by omega) | exact dd _ (by omega) | exact dc _ (by omega) | exact dv _ (by omega) | exact hq9) | first | assumption | exact g1.2 _ _ _ rfl | exact db _ (by omega) | exact dd _ (by omega) | exact dc _ (by omega) | exact dv _ (by omega) | exact hq9) | first | assumption | exact g1.2 _ _ _ rfl | exact db _ (by omega) | exact dd _ (by omega) | exact dc _ (by omega) | exact dv _ (by omega) | exact hq9)) (k := ?_)
              refine r_calls (j2 := 137) hm rfl rfl rfl rfl rfl rfl (Nat.le_of_ble_eq_true rfl) (Nat.le_of_ble_eq_true rfl) rfl ⟨Nat.le_of_ble_eq_true rfl, Nat.le_of_ble_eq_true rfl, Nat.le_of_ble_eq_true rfl, Nat.le_of_ble_eq_true rfl, Nat.le_of_ble_eq_true rfl⟩ rfl (c_sortOf) (fun v9 h9 p9 => ?_)
              obtain ⟨e1, e2⟩ := p9
              subst e2
              replace e1 := e1.symm
              subst e1
              change RN 136 104 _ _ _ 0 0 _
              dsimp only [Option.toList, List.cons_append, List.nil_append]
              refine r_aload_n hm rfl (k := ?_)
              refine r_getI (hm := hm) (hf := rfl) (hd := rfl) (hs := (by first | assumption | exact (g1.1 _).trans rfl)) (hv := (by first | exact putI_eq | exact (putI_ne (by omega)).trans (by first | exact putI_eq | exact (putI_ne (by omega)).trans (by first | first | assumption | exact g1.2 _ _ _ rfl | exact db _ (by omega) | exact dd _ (by omega) | exact dc _ (by omega) | exact dv _ (by omega) | exact hq9) | first | assumption | exact g1.2 _ _ _ rfl | exact db _ (by omega) | exact dd _ (by omega) | exact dc _ (by omega) | exact dv _ (by omega) | exact hq9) | first | assumption | exact g1.2 _ _ _ rfl | exact db _ (by omega) | exact dd _ (by omega) | exact dc _ (by omega) | exact dv _ (by omega) | exact hq9)) (k := ?_)
              refine r_icmp_ne (t := 117) hm rfl rfl (fun c108 => ?_) (fun c108 => ?_)
              · refine r_aload_n hm rfl (k := ?_)
                refine r_iload_n hm rfl (k := ?_)
                refine r_putI (hm := hm) (hf := rfl) (hd := rfl) (hs := (by first | assumption | exact (g1.1 _).trans rfl)) (hfin := Or.inl rfl) (hz := fun q9 => absurd q9 (by decide)) (k := ?_)
                refine r_return hm rfl rfl (Nat.le_of_ble_eq_true rfl) (Nat.le_of_ble_eq_true rfl) ?_
                have eE : tez b n p2 = q := by
                  rw [eA (by omega), k9 (by omega), if_neg (by omega)]
                refine ⟨⟨R0.pT D1 (by omega), ok1, ?_, ?_, ?_⟩, rfl⟩
                · rw [putI_ne (by omega)]; exact t7
                · rw [putI_ne (by omega)]; exact t8
                · rw [putI_eq, eE]
              · refine r_iinc hm rfl (hr := (by omega)) (k := ?_)
                refine r_goto (t := 71) hm rfl (k := ?_)
                refine ih (d - 1) (by omega) (q + 1) (by omega) (fun z => ?_) (fun z => by omega)
                rw [eA z, k9 (by omega), if_pos (by omega), show n - q - 1 = n - (q + 1) by omega]
            · refine r_aload_n hm rfl (k := ?_)
              refine r_getI (hm := hm) (hf := rfl) (hd := rfl) (hs := (by first | assumption | exact (g1.1 _).trans rfl)) (hv := (by first | exact putI_eq | exact (putI_ne (by omega)).trans (by first | exact putI_eq | exact (putI_ne (by omega)).trans (by first | first | assumption | exact g1.2 _ _ _ rfl | exact db _ (by omega) | exact dd _ (by omega) | exact dc _ (by omega) | exact dv _ (by omega) | exact hq9) | first | assumption | exact g1.2 _ _ _ rfl | exact db _ (by omega) | exact dd _ (by omega) | exact dc _ (by omega) | exact dv _ (by omega) | exact hq9) | first | assumption | exact g1.2 _ _ _ rfl | exact db _ (by omega) | exact dd _ (by omega) | exact dc _ (by omega) | exact dv _ (by omega) | exact hq9)) (k := ?_)
              refine r_iconst hm rfl (k := ?_)
              refine r_icmp_ne (t := 117) hm rfl rfl (fun c92 => ?_) (fun c92 => ?_)
              · refine r_aload_n hm rfl (k := ?_)
                refine r_iload_n hm rfl (k := ?_)
                refine r_putI (hm := hm) (hf := rfl) (hd := rfl) (hs := (by first | assumption | exact (g1.1 _).trans rfl)) (hfin := Or.inl rfl) (hz := fun q9 => absurd q9 (by decide)) (k := ?_)
                refine r_return hm rfl rfl (Nat.le_of_ble_eq_true rfl) (Nat.le_of_ble_eq_true rfl) ?_
                have eE : tez b n p2 = q := eB (by omega)
                refine ⟨⟨R0.pT D1 (by omega), ok1, ?_, ?_, ?_⟩, rfl⟩
                · rw [putI_ne (by omega)]; exact t7
                · rw [putI_ne (by omega)]; exact t8
                · rw [putI_eq, eE]
              · refine r_aload_n hm rfl (k := ?_)
                refine r_getR (hm := hm) (hf := rfl) (hd := rfl) (hs := (by first | assumption | exact (g1.1 _).trans rfl)) (hv := (by first | exact putI_eq | exact (putI_ne (by omega)).trans (by first | exact putI_eq | exact (putI_ne (by omega)).trans (by first | first | assumption | exact g1.2 _ _ _ rfl | exact db _ (by omega) | exact dd _ (by omega) | exact dc _ (by omega) | exact dv _ (by omega) | exact hq9) | first | assumption | exact g1.2 _ _ _ rfl | exact db _ (by omega) | exact dd _ (by omega) | exact dc _ (by omega) | exact dv _ (by omega) | exact hq9) | first | assumption | exact g1.2 _ _ _ rfl | exact db _ (by omega) | exact dd _ (by omega) | exact dc _ (by omega) | exact dv _ (by omega) | exact hq9)) (k := ?_)
                refine r_iload_n hm rfl (k := ?_)
                refine r_iald (hm := hm) (hf := rfl) (hs := (by first | assumption | exact (g1.1 _).trans rfl)) (kk := q) (hi := by omega) (hn := (by omega)) (hv := (by first | exact putI_eq | exact (putI_ne (by omega)).trans (by first | exact putI_eq | exact (putI_ne (by omega)).trans (by first | first | assumption | exact g1.2 _ _ _ rfl | exact db _ (by omega) | exact dd _ (by omega) | exact dc _ (by omega) | exact dv _ (by omega) | exact hq9) | first | assumption | exact g1.2 _ _ _ rfl | exact db _ (by omega) | exact dd _ (by omega) | exact dc _ (by omega) | exact dv _ (by omega) | exact hq9) | first | assumption | exact g1.2 _ _ _ rfl | exact db _ (by omega) | exact dd _ (by omega) | exact dc _ (by omega) | exact dv _ (by omega) | exact hq9)) (k := ?_)
                refine r_calls (j2 := 137) hm rfl rfl rfl rfl rfl rfl (Nat.le_of_ble_eq_true rfl) (Nat.le_of_ble_eq_true rfl) rfl ⟨Nat.le_of_ble_eq_true rfl, Nat.le_of_ble_eq_true rfl, Nat.le_of_ble_eq_true rfl, Nat.le_of_ble_eq_true rfl, Nat.le_of_ble_eq_true rfl⟩ rfl (c_sortOf) (fun v9 h9 p9 => ?_)
                obtain ⟨e1, e2⟩ := p9
                subst e2
                replace e1 := e1.symm
                subst e1
                change RN 136 104 _ _ _ 0 0 _
                dsimp only [Option.toList, List.cons_append, List.nil_append]
                refine r_aload_n hm rfl (k := ?_)
                refine r_getI (hm := hm) (hf := rfl) (hd := rfl) (hs := (by first | assumption | exact (g1.1 _).trans rfl)) (hv := (by first | exact putI_eq | exact (putI_ne (by omega)).trans (by first | exact putI_eq | exact (putI_ne (by omega)).trans (by first | first | assumption | exact g1.2 _ _ _ rfl | exact db _ (by omega) | exact dd _ (by omega) | exact dc _ (by omega) | exact dv _ (by omega) | exact hq9) | first | assumption | exact g1.2 _ _ _ rfl | exact db _ (by omega) | exact dd _ (by omega) | exact dc _ (by omega) | exact dv _ (by omega) | exact hq9) | first | assumption | exact g1.2 _ _ _ rfl | exact db _ (by omega) | exact dd _ (by omega) | exact dc _ (by omega) | exact dv _ (by omega) | exact hq9)) (k := ?_)
                refine r_icmp_ne (t := 117) hm rfl rfl (fun c108 => ?_) (fun c108 => ?_)
                · refine r_aload_n hm rfl (k := ?_)
                  refine r_iload_n hm rfl (k := ?_)
                  refine r_putI (hm := hm) (hf := rfl) (hd := rfl) (hs := (by first | assumption | exact (g1.1 _).trans rfl)) (hfin := Or.inl rfl) (hz := fun q9 => absurd q9 (by decide)) (k := ?_)
                  refine r_return hm rfl rfl (Nat.le_of_ble_eq_true rfl) (Nat.le_of_ble_eq_true rfl) ?_
                  have eE : tez b n p2 = q := by
                    rw [eA (by omega), k9 (by omega), if_neg (by omega)]
                  refine ⟨⟨R0.pT D1 (by omega), ok1, ?_, ?_, ?_⟩, rfl⟩
                  · rw [putI_ne (by omega)]; exact t7
                  · rw [putI_ne (by omega)]; exact t8
                  · rw [putI_eq, eE]
                · refine r_iinc hm rfl (hr := (by omega)) (k := ?_)
                  refine r_goto (t := 71) hm rfl (k := ?_)
                  refine ih (d - 1) (by omega) (q + 1) (by omega) (fun z => ?_) (fun z => by omega)
                  rw [eA z, k9 (by omega), if_pos (by omega), show n - q - 1 = n - (q + 1) by omega]
      · refine r_aload_n hm rfl (k := ?_)
        refine r_getR (hm := hm) (hf := rfl) (hd := rfl) (hs := (by first | assumption | exact (g1.1 _).trans rfl)) (hv := (by first | exact putI_eq | exact (putI_ne (by omega)).trans (by first | exact putI_eq | exact (putI_ne (by omega)).trans (by first | first | assumption | exact g1.2 _ _ _ rfl | exact db _ (by omega) | exact dd _ (by omega) | exact dc _ (by omega) | exact dv _ (by omega) | exact hq9) | first | assumption | exact g1.2 _ _ _ rfl | exact db _ (by omega) | exact dd _ (by omega) | exact dc _ (by omega) | exact dv _ (by omega) | exact hq9) | first | assumption | exact g1.2 _ _ _ rfl | exact db _ (by omega) | exact dd _ (by omega) | exact dc _ (by omega) | exact dv _ (by omega) | exact hq9)) (k := ?_)
        refine r_iload_n hm rfl (k := ?_)
        refine r_iald (hm := hm) (hf := rfl) (hs := (by first | assumption | exact (g1.1 _).trans rfl)) (kk := p2) (hi := by omega) (hn := (by omega)) (hv := (by first | exact putI_eq | exact (putI_ne (by omega)).trans (by first | exact putI_eq | exact (putI_ne (by omega)).trans (by first | first | assumption | exact g1.2 _ _ _ rfl | exact db _ (by omega) | exact dd _ (by omega) | exact dc _ (by omega) | exact dv _ (by omega) | exact hq9) | first | assumption | exact g1.2 _ _ _ rfl | exact db _ (by omega) | exact dd _ (by omega) | exact dc _ (by omega) | exact dv _ (by omega) | exact hq9) | first | assumption | exact g1.2 _ _ _ rfl | exact db _ (by omega) | exact dd _ (by omega) | exact dc _ (by omega) | exact dv _ (by omega) | exact hq9)) (k := ?_)
        refine r_calls (j2 := 137) hm rfl rfl rfl rfl rfl rfl (Nat.le_of_ble_eq_true rfl) (Nat.le_of_ble_eq_true rfl) rfl ⟨Nat.le_of_ble_eq_true rfl, Nat.le_of_ble_eq_true rfl, Nat.le_of_ble_eq_true rfl, Nat.le_of_ble_eq_true rfl, Nat.le_of_ble_eq_true rfl⟩ rfl (c_sortOf) (fun v9 h9 p9 => ?_)
        obtain ⟨e1, e2⟩ := p9
        subst e2
        replace e1 := e1.symm
        subst e1
        change RN 136 53 _ _ _ 0 0 _
        dsimp only [Option.toList, List.cons_append, List.nil_append]
        refine r_goto (t := 57) hm rfl (k := ?_)
        refine r_putI (hm := hm) (hf := rfl) (hd := rfl) (hs := (by first | assumption | exact (g1.1 _).trans rfl)) (hfin := Or.inl rfl) (hz := fun q9 => absurd q9 (by decide)) (k := ?_)
        have ok1 : okR b n (sk b n p, s.2) := ⟨(sk_rng hp).2.1, sk_sk hp, ok.2.2⟩
        rw [← eP]
        rw [← eP] at ok1
        refine RN.abs (fun h1 => R0 L h0 h1 b n s ∧ h1.2.1 347 7 = tkz b n p2 ∧ h1.2.1 347 8 = (p2 : Int)) ⟨R0.pT (R0.pT D (by omega)) (by omega), ?_, ?_⟩ (fun h1 H9 => ?_)
        · rw [putI_eq]; unfold tkz; rw [if_pos (by omega)]
        · rw [putI_ne (by omega), putI_eq]
        obtain ⟨D1, t7, t8⟩ := H9
        clear ih D g1 C SM dl dn db dbr df da dd dc dv
        obtain ⟨g1, C, SM, dl, dn, db, dbr, df, da, dd, dc, dv⟩ := id D1
        refine r_iload_n hm rfl (k := ?_)
        refine r_aload_n hm rfl (k := ?_)
        refine r_getI (hm := hm) (hf := rfl) (hd := rfl) (hs := (by first | assumption | exact (g1.1 _).trans rfl)) (hv := (by first | exact putI_eq | exact (putI_ne (by omega)).trans (by first | exact putI_eq | exact (putI_ne (by omega)).trans (by first | first | assumption | exact g1.2 _ _ _ rfl | exact db _ (by omega) | exact dd _ (by omega) | exact dc _ (by omega) | exact dv _ (by omega) | exact hq9) | first | assumption | exact g1.2 _ _ _ rfl | exact db _ (by omega) | exact dd _ (by omega) | exact dc _ (by omega) | exact dv _ (by omega) | exact hq9) | first | assumption | exact g1.2 _ _ _ rfl | exact db _ (by omega) | exact dd _ (by omega) | exact dc _ (by omega) | exact dv _ (by omega) | exact hq9)) (k := ?_)
        refine r_icmp_ge (t := 71) hm rfl rfl (fun c65 => ?_) (fun c65 => ?_)
        · suffices LP2 : ∀ (d q : Nat), q + d = n → ((tkz b n p2 = 1 ∨ tkz b n p2 = 2) → tez b n p2 = ruN b (tkz b n p2) (n - q) q) → (¬ (tkz b n p2 = 1 ∨ tkz b n p2 = 2) → tez b n p2 = q) → RN 136 71 [some (.inr (.inr (some (347)))), some (.inl (q : Int))] [] h1 0 0 (fun v h2 => Rr L h0 h2 b n (p2, s.2) ∧ v = none) from LP2 0 p2 (by omega) (fun z => by unfold tkz at z; rw [if_neg (by omega)] at z; omega) (fun z => by unfold tez; rw [if_neg (by omega)])
          refine fun d => Nat.strongRecOn d (fun d ih => ?_)
          intro q hd eA eB
          have k9 := ruN_go (b := b) (t := tkz b n p2) (d := n - q) (p := q)
          refine r_iload_n hm rfl (k := ?_)
          refine r_aload_n hm rfl (k := ?_)
          refine r_getI (hm := hm) (hf := rfl) (hd := rfl) (hs := (by first | assumption | exact (g1.1 _).trans rfl)) (hv := (by first | exact putI_eq | exact (putI_ne (by omega)).trans (by first | exact putI_eq | exact (putI_ne (by omega)).trans (by first | first | assumption | exact g1.2 _ _ _ rfl | exact db _ (by omega) | exact dd _ (by omega) | exact dc _ (by omega) | exact dv _ (by omega) | exact hq9) | first | assumption | exact g1.2 _ _ _ rfl | exact db _ (by omega) | exact dd _ (by omega) | exact dc _ (by omega) | exact dv _ (by omega) | exact hq9) | first | assumption | exact g1.2 _ _ _ rfl | exact db _ (by omega) | exact dd _ (by omega) | exact dc _ (by omega) | exact dv _ (by omega) | exact hq9)) (k := ?_)
          refine r_icmp_ge (t := 117) hm rfl rfl (fun c76 => ?_) (fun c76 => ?_)
          · refine r_aload_n hm rfl (k := ?_)
            refine r_iload_n hm rfl (k := ?_)
            refine r_putI (hm := hm) (hf := rfl) (hd := rfl) (hs := (by first | assumption | exact (g1.1 _).trans rfl)) (hfin := Or.inl rfl) (hz := fun q9 => absurd q9 (by decide)) (k := ?_)
            refine r_return hm rfl rfl (Nat.le_of_ble_eq_true rfl) (Nat.le_of_ble_eq_true rfl) ?_
            have eE : tez b n p2 = q := by
              by_cases z : tkz b n p2 = 1 ∨ tkz b n p2 = 2
              · rw [eA z, show n - q = 0 by omega]; rfl
              · exact eB z
            refine ⟨⟨R0.pT D1 (by omega), ok1, ?_, ?_, ?_⟩, rfl⟩
            · rw [putI_ne (by omega)]; exact t7
            · rw [putI_ne (by omega)]; exact t8
            · rw [putI_eq, eE]
          · refine r_aload_n hm rfl (k := ?_)
            refine r_getI (hm := hm) (hf := rfl) (hd := rfl) (hs := (by first | assumption | exact (g1.1 _).trans rfl)) (hv := (by first | exact putI_eq | exact (putI_ne (by omega)).trans (by first | exact putI_eq | exact (putI_ne (by omega)).trans (by first | first | assumption | exact g1.2 _ _ _ rfl | exact db _ (by omega) | exact dd _ (by omega) | exact dc _ (by omega) | exact dv _ (by omega) | exact hq9) | first | assumption | exact g1.2 _ _ _ rfl | exact db _ (by omega) | exact dd _ (by omega) | exact dc _ (by omega) | exact dv _ (by omega) | exact hq9) | first | assumption | exact g1.2 _ _ _ rfl | exact db _ (by omega) | exact dd _ (by omega) | exact dc _ (by omega) | exact dv _ (by omega) | exact hq9)) (k := ?_)
            refine r_iconst hm rfl (k := ?_)
            refine r_icmp_eq (t := 95) hm rfl rfl (fun c84 => ?_) (fun c84 => ?_)
            · refine r_aload_n hm rfl (k := ?_)
              refine r_getR (hm := hm) (hf := rfl) (hd := rfl) (hs := (by first | assumption | exact (g1.1 _).trans rfl)) (hv := (by first | exact putI_eq | exact (putI_ne (by omega)).trans (by first | exact putI_eq | exact (putI_ne (by omega)).trans (by first | first | assumption | exact g1.2 _ _ _ rfl | exact db _ (by omega) | exact dd _ (by omega) | exact dc _ (by omega) | exact dv _ (by omega) | exact hq9) | first | assumption | exact g1.2 _ _ _ rfl | exact db _ (by omega) | exact dd _ (by omega) | exact dc _ (by omega) | exact dv _ (by omega) | exact hq9) | first | assumption | exact g1.2 _ _ _ rfl | exact db _ (by omega) | exact dd _ (by omega) | exact dc _ (by omega) | exact dv _ (by omega) | exact hq9)) (k := ?_)
              refine r_iload_n hm rfl (k := ?_)
              refine r_iald (hm := hm) (hf := rfl) (hs := (by first | assumption | exact (g1.1 _).trans rfl)) (kk := q) (hi := by omega) (hn := (by omega)) (hv := (by first | exact putI_eq | exact (putI_ne (by omega)).trans (by first | exact putI_eq | exact (putI_ne (by omega)).trans (by first | first | assumption | exact g1.2 _ _ _ rfl | exact db _ (by omega) | exact dd _ (by omega) | exact dc _ (by omega) | exact dv _ (by omega) | exact hq9) | first | assumption | exact g1.2 _ _ _ rfl | exact db _ (by omega) | exact dd _ (by omega) | exact dc _ (by omega) | exact dv _ (by omega) | exact hq9) | first | assumption | exact g1.2 _ _ _ rfl | exact db _ (by omega) | exact dd _ (by omega) | exact dc _ (by omega) | exact dv _ (by omega) | exact hq9)) (k := ?_)
              refine r_calls (j2 := 137) hm rfl rfl rfl rfl rfl rfl (Nat.le_of_ble_eq_true rfl) (Nat.le_of_ble_eq_true rfl) rfl ⟨Nat.le_of_ble_eq_true rfl, Nat.le_of_ble_eq_true rfl, Nat.le_of_ble_eq_true rfl, Nat.le_of_ble_eq_true rfl, Nat.le_of_ble_eq_true rfl⟩ rfl (c_sortOf) (fun v9 h9 p9 => ?_)
              obtain ⟨e1, e2⟩ := p9
              subst e2
              replace e1 := e1.symm
              subst e1
              change RN 136 104 _ _ _ 0 0 _
              dsimp only [Option.toList, List.cons_append, List.nil_append]
              refine r_aload_n hm rfl (k := ?_)
              refine r_getI (hm := hm) (hf := rfl) (hd := rfl) (hs := (by first | assumption | exact (g1.1 _).trans rfl)) (hv := (by first | exact putI_eq | exact (putI_ne (by omega)).trans (by first | exact putI_eq | exact (putI_ne (by omega)).trans (by first | first | assumption | exact g1.2 _ _ _ rfl | exact db _ (by omega) | exact dd _ (by omega) | exact dc _ (by omega) | exact dv _ (by omega) | exact hq9) | first | assumption | exact g1.2 _ _ _ rfl | exact db _ (by omega) | exact dd _ (by omega) | exact dc _ (by omega) | exact dv _ (by omega) | exact hq9) | first | assumption | exact g1.2 _ _ _ rfl | exact db _ (by omega) | exact dd _ (by omega) | exact dc _ (by omega) | exact dv _ (by omega) | exact hq9)) (k := ?_)
              refine r_icmp_ne (t := 117) hm rfl rfl (fun c108 => ?_) (fun c108 => ?_)
              · refine r_aload_n hm rfl (k := ?_)
                refine r_iload_n hm rfl (k := ?_)
                refine r_putI (hm := hm) (hf := rfl) (hd := rfl) (hs := (by first | assumption | exact (g1.1 _).trans rfl)) (hfin := Or.inl rfl) (hz := fun q9 => absurd q9 (by decide)) (k := ?_)
                refine r_return hm rfl rfl (Nat.le_of_ble_eq_true rfl) (Nat.le_of_ble_eq_true rfl) ?_
                have eE : tez b n p2 = q := by
                  rw [eA (by omega), k9 (by omega), if_neg (by omega)]
                refine ⟨⟨R0.pT D1 (by omega), ok1, ?_, ?_, ?_⟩, rfl⟩
                · rw [putI_ne (by omega)]; exact t7
                · rw [putI_ne (by omega)]; exact t8
                · rw [putI_eq, eE]
              · refine r_iinc hm rfl (hr := (by omega)) (k := ?_)
                refine r_goto (t := 71) hm rfl (k := ?_)
                refine ih (d - 1) (by omega) (q + 1) (by omega) (fun z => ?_) (fun z => by omega)
                rw [eA z, k9 (by omega), if_pos (by omega), show n - q - 1 = n - (q + 1) by omega]
            · refine r_aload_n hm rfl (k := ?_)
              refine r_getI (hm := hm) (hf := rfl) (hd := rfl) (hs := (by first | assumption | exact (g1.1 _).trans rfl)) (hv := (by first | exact putI_eq | exact (putI_ne (by omega)).trans (by first | exact putI_eq | exact (putI_ne (by omega)).trans (by first | first | assumption | exact g1.2 _ _ _ rfl | exact db _ (by omega) | exact dd _ (by omega) | exact dc _ (by omega) | exact dv _ (by omega) | exact hq9) | first | assumption | exact g1.2 _ _ _ rfl | exact db _ (by omega) | exact dd _ (by omega) | exact dc _ (by omega) | exact dv _ (by omega) | exact hq9) | first | assumption | exact g1.2 _ _ _ rfl | exact db _ (by omega) | exact dd _ (by omega) | exact dc _ (by omega) | exact dv _ (by omega) | exact hq9)) (k := ?_)
              refine r_iconst hm rfl (k := ?_)
              refine r_icmp_ne (t := 117) hm rfl rfl (fun c92 => ?_) (fun c92 => ?_)
              · refine r_aload_n hm rfl (k := ?_)
                refine r_iload_n hm rfl (k := ?_)
                refine r_putI (hm := hm) (hf := rfl) (hd := rfl) (hs := (by first | assumption | exact (g1.1 _).trans rfl)) (hfin := Or.inl rfl) (hz := fun q9 => absurd q9 (by decide)) (k := ?_)
                refine r_return hm rfl rfl (Nat.le_of_ble_eq_true rfl) (Nat.le_of_ble_eq_true rfl) ?_
                have eE : tez b n p2 = q := eB (by omega)
                refine ⟨⟨R0.pT D1 (by omega), ok1, ?_, ?_, ?_⟩, rfl⟩
                · rw [putI_ne (by omega)]; exact t7
                · rw [putI_ne (by omega)]; exact t8
                · rw [putI_eq, eE]
              · refine r_aload_n hm rfl (k := ?_)
                refine r_getR (hm := hm) (hf := rfl) (hd := rfl) (hs := (by first | assumption | exact (g1.1 _).trans rfl)) (hv := (by first | exact putI_eq | exact (putI_ne (by omega)).trans (by first | exact putI_eq | exact (putI_ne (by omega)).trans (by first | first | assumption | exact g1.2 _ _ _ rfl | exact db _ (by omega) | exact dd _ (by omega) | exact dc _ (by omega) | exact dv _ (by omega) | exact hq9) | first | assumption | exact g1.2 _ _ _ rfl | exact db _ (by omega) | exact dd _ (by omega) | exact dc _ (by omega) | exact dv _ (by omega) | exact hq9) | first | assumption | exact g1.2 _ _ _ rfl | exact db _ (by omega) | exact dd _ (by omega) | exact dc _ (by omega) | exact dv _ (by omega) | exact hq9)) (k := ?_)
                refine r_iload_n hm rfl (k := ?_)
                refine r_iald (hm := hm) (hf := rfl) (hs := (by first | assumption | exact (g1.1 _).trans rfl)) (kk := q) (hi := by omega) (hn := (by omega)) (hv := (by first | exact putI_eq | exact (putI_ne (by omega)).trans (by first | exact putI_eq | exact (putI_ne (by omega)).trans (by first | first | assumption | exact g1.2 _ _ _ rfl | exact db _ (by omega) | exact dd _ (by omega) | exact dc _ (by omega) | exact dv _ (by omega) | exact hq9) | first | assumption | exact g1.2 _ _ _ rfl | exact db _ (by omega) | exact dd _ (by omega) | exact dc _ (by omega) | exact dv _ (by omega) | exact hq9) | first | assumption | exact g1.2 _ _ _ rfl | exact db _ (by omega) | exact dd _ (by omega) | exact dc _ (by omega) | exact dv _ (by omega) | exact hq9)) (k := ?_)
                refine r_calls (j2 := 137) hm rfl rfl rfl rfl rfl rfl (Nat.le_of_ble_eq_true rfl) (Nat.le_of_ble_eq_true rfl) rfl ⟨Nat.le_of_ble_eq_true rfl, Nat.le_of_ble_eq_true rfl, Nat.le_of_ble_eq_true rfl, Nat.le_of_ble_eq_true rfl, Nat.le_of_ble_eq_true rfl⟩ rfl (c_sortOf) (fun v9 h9 p9 => ?_)
                obtain ⟨e1, e2⟩ := p9
                subst e2
                replace e1 := e1.symm
                subst e1
                change RN 136 104 _ _ _ 0 0 _
                dsimp only [Option.toList, List.cons_append, List.nil_append]
                refine r_aload_n hm rfl (k := ?_)
                refine r_getI (hm := hm) (hf := rfl) (hd := rfl) (hs := (by first | assumption | exact (g1.1 _).trans rfl)) (hv := (by first | exact putI_eq | exact (putI_ne (by omega)).trans (by first | exact putI_eq | exact (putI_ne (by omega)).trans (by first | first | assumption | exact g1.2 _ _ _ rfl | exact db _ (by omega) | exact dd _ (by omega) | exact dc _ (by omega) | exact dv _ (by omega) | exact hq9) | first | assumption | exact g1.2 _ _ _ rfl | exact db _ (by omega) | exact dd _ (by omega) | exact dc _ (by omega) | exact dv _ (by omega) | exact hq9) | first | assumption | exact g1.2 _ _ _ rfl | exact db _ (by omega) | exact dd _ (by omega) | exact dc _ (by omega) | exact dv _ (by omega) | exact hq9)) (k := ?_)
                refine r_icmp_ne (t := 117) hm rfl rfl (fun c108 => ?_) (fun c108 => ?_)
                · refine r_aload_n hm rfl (k := ?_)
                  refine r_iload_n hm rfl (k := ?_)
                  refine r_putI (hm := hm) (hf := rfl) (hd := rfl) (hs := (by first | assumption | exact (g1.1 _).trans rfl)) (hfin := Or.inl rfl) (hz := fun q9 => absurd q9 (by decide)) (k := ?_)
                  refine r_return hm rfl rfl (Nat.le_of_ble_eq_true rfl) (Nat.le_of_ble_eq_true rfl) ?_
                  have eE : tez b n p2 = q := by
                    rw [eA (by omega), k9 (by omega), if_neg (by omega)]
                  refine ⟨⟨R0.pT D1 (by omega), ok1, ?_, ?_, ?_⟩, rfl⟩
                  · rw [putI_ne (by omega)]; exact t7
                  · rw [putI_ne (by omega)]; exact t8
                  · rw [putI_eq, eE]
                · refine r_iinc hm rfl (hr := (by omega)) (k := ?_)
                  refine r_goto (t := 71) hm rfl (k := ?_)
                  refine ih (d - 1) (by omega) (q + 1) (by omega) (fun z => ?_) (fun z => by omega)
                  rw [eA z, k9 (by omega), if_pos (by omega), show n - q - 1 = n - (q + 1) by omega]
        · refine r_iinc hm rfl (hr := (by omega)) (k := ?_)
          suffices LP2 : ∀ (d q : Nat), q + d = n → ((tkz b n p2 = 1 ∨ tkz b n p2 = 2) → tez b n p2 = ruN b (tkz b n p2) (n - q) q) → (¬ (tkz b n p2 = 1 ∨ tkz b n p2 = 2) → tez b n p2 = q) → RN 136 71 [some (.inr (.inr (some (347)))), some (.inl (q : Int))] [] h1 0 0 (fun v h2 => Rr L h0 h2 b n (p2, s.2) ∧ v = none) from LP2 (n - (p2 + 1)) (p2 + 1) (by omega) (fun z => by unfold tez; rw [if_pos (by omega), if_pos z]) (fun z => by unfold tez; rw [if_pos (by omega), if_neg z])
          refine fun d => Nat.strongRecOn d (fun d ih => ?_)
          intro q hd eA eB
          have k9 := ruN_go (b := b) (t := tkz b n p2) (d := n - q) (p := q)
          refine r_iload_n hm rfl (k := ?_)
          refine r_aload_n hm rfl (k := ?_)
          refine r_getI (hm := hm) (hf := rfl) (hd := rfl) (hs := (by first | assumption | exact (g1.1 _).trans rfl)) (hv := (by first | exact putI_eq | exact (putI_ne (by omega)).trans (by first | exact putI_eq | exact (putI_ne (by omega)).trans (by first | first | assumption | exact g1.2 _ _ _ rfl | exact db _ (by omega) | exact dd _ (by omega) | exact dc _ (by omega) | exact dv _ (by omega) | exact hq9) | first | assumption | exact g1.2 _ _ _ rfl | exact db _ (by omega) | exact dd _ (by omega) | exact dc _ (by omega) | exact dv _ (by omega) | exact hq9) | first | assumption | exact g1.2 _ _ _ rfl | exact db _ (by omega) | exact dd _ (by omega) | exact dc _ (by omega) | exact dv _ (by omega) | exact hq9)) (k := ?_)
          refine r_icmp_ge (t := 117) hm rfl rfl (fun c76 => ?_) (fun c76 => ?_)
          · refine r_aload_n hm rfl (k := ?_)
            refine r_iload_n hm rfl (k := ?_)
            refine r_putI (hm := hm) (hf := rfl) (hd := rfl) (hs := (by first | assumption | exact (g1.1 _).trans rfl)) (hfin := Or.inl rfl) (hz := fun q9 => absurd q9 (by decide)) (k := ?_)
            refine r_return hm rfl rfl (Nat.le_of_ble_eq_true rfl) (Nat.le_of_ble_eq_true rfl) ?_
            have eE : tez b n p2 = q := by
              by_cases z : tkz b n p2 = 1 ∨ tkz b n p2 = 2
              · rw [eA z, show n - q = 0 by omega]; rfl
              · exact eB z
            refine ⟨⟨R0.pT D1 (by omega), ok1, ?_, ?_, ?_⟩, rfl⟩
            · rw [putI_ne (by omega)]; exact t7
            · rw [putI_ne (by omega)]; exact t8
            · rw [putI_eq, eE]
          · refine r_aload_n hm rfl (k := ?_)
            refine r_getI (hm := hm) (hf := rfl) (hd := rfl) (hs := (by first | assumption | exact (g1.1 _).trans rfl)) (hv := (by first | exact putI_eq | exact (putI_ne (by omega)).trans (by first | exact putI_eq | exact (putI_ne (by omega)).trans (by first | first | assumption | exact g1.2 _ _ _ rfl | exact db _ (by omega) | exact dd _ (by omega) | exact dc _ (by omega) | exact dv _ (by omega) | exact hq9) | first | assumption | exact g1.2 _ _ _ rfl | exact db _ (by omega) | exact dd _ (by omega) | exact dc _ (by omega) | exact dv _ (by omega) | exact hq9) | first | assumption | exact g1.2 _ _ _ rfl | exact db _ (by omega) | exact dd _ (by omega) | exact dc _ (by omega) | exact dv _ (by omega) | exact hq9)) (k := ?_)
            refine r_iconst hm rfl (k := ?_)
            refine r_icmp_eq (t := 95) hm rfl rfl (fun c84 => ?_) (fun c84 => ?_)
            · refine r_aload_n hm rfl (k := ?_)
              refine r_getR (hm := hm) (hf := rfl) (hd := rfl) (hs := (by first | assumption | exact (g1.1 _).trans rfl)) (hv := (by first | exact putI_eq | exact (putI_ne (by omega)).trans (by first | exact putI_eq | exact (putI_ne (by omega)).trans (by first | first | assumption | exact g1.2 _ _ _ rfl | exact db _ (by omega) | exact dd _ (by omega) | exact dc _ (by omega) | exact dv _ (by omega) | exact hq9) | first | assumption | exact g1.2 _ _ _ rfl | exact db _ (by omega) | exact dd _ (by omega) | exact dc _ (by omega) | exact dv _ (by omega) | exact hq9) | first | assumption | exact g1.2 _ _ _ rfl | exact db _ (by omega) | exact dd _ (by omega) | exact dc _ (by omega) | exact dv _ (by omega) | exact hq9)) (k := ?_)
              refine r_iload_n hm rfl (k := ?_)
              refine r_iald (hm := hm) (hf := rfl) (hs := (by first | assumption | exact (g1.1 _).trans rfl)) (kk := q) (hi := by omega) (hn := (by omega)) (hv := (by first | exact putI_eq | exact (putI_ne (by omega)).trans (by first | exact putI_eq | exact (putI_ne (by omega)).trans (by first | first | assumption | exact g1.2 _ _ _ rfl | exact db _ (by omega) | exact dd _ (by omega) | exact dc _ (by omega) | exact dv _ (by omega) | exact hq9) | first | assumption | exact g1.2 _ _ _ rfl | exact db _ (by omega) | exact dd _ (by omega) | exact dc _ (by omega) | exact dv _ (by omega) | exact hq9) | first | assumption | exact g1.2 _ _ _ rfl | exact db _ (by omega) | exact dd _ (by omega) | exact dc _ (by omega) | exact dv _ (by omega) | exact hq9)) (k := ?_)
              refine r_calls (j2 := 137) hm rfl rfl rfl rfl rfl rfl (Nat.le_of_ble_eq_true rfl) (Nat.le_of_ble_eq_true rfl) rfl ⟨Nat.le_of_ble_eq_true rfl, Nat.le_of_ble_eq_true rfl, Nat.le_of_ble_eq_true rfl, Nat.le_of_ble_eq_true rfl, Nat.le_of_ble_eq_true rfl⟩ rfl (c_sortOf) (fun v9 h9 p9 => ?_)
              obtain ⟨e1, e2⟩ := p9
              subst e2
              replace e1 := e1.symm
              subst e1
              change RN 136 104 _ _ _ 0 0 _
              dsimp only [Option.toList, List.cons_append, List.nil_append]
              refine r_aload_n hm rfl (k := ?_)
              refine r_getI (hm := hm) (hf := rfl) (hd := rfl) (hs := (by first | assumption | exact (g1.1 _).trans rfl)) (hv := (by first | exact putI_eq | exact (putI_ne (by omega)).trans (by first | exact putI_eq | exact (putI_ne (by omega)).trans (by first | first | assumption | exact g1.2 _ _ _ rfl | exact db _ (by omega) | exact dd _ (by omega) | exact dc _ (by omega) | exact dv _ (by omega) | exact hq9) | first | assumption | exact g1.2 _ _ _ rfl | exact db _ (by omega) | exact dd _ (by omega) | exact dc _ (by omega) | exact dv _ (by omega) | exact hq9) | first | assumption | exact g1.2 _ _ _ rfl | exact db _ (by omega) | exact dd _ (by omega) | exact dc _ (by omega) | exact dv _ (by omega) | exact hq9)) (k := ?_)
              refine r_icmp_ne (t := 117) hm rfl rfl (fun c108 => ?_) (fun c108 => ?_)
              · refine r_aload_n hm rfl (k := ?_)
                refine r_iload_n hm rfl (k := ?_)
                refine r_putI (hm := hm) (hf := rfl) (hd := rfl) (hs := (by first | assumption | exact (g1.1 _).trans rfl)) (hfin := Or.inl rfl) (hz := fun q9 => absurd q9 (by decide)) (k := ?_)
                refine r_return hm rfl rfl (Nat.le_of_ble_eq_true rfl) (Nat.le_of_ble_eq_true rfl) ?_
                have eE : tez b n p2 = q := by
                  rw [eA (by omega), k9 (by omega), if_neg (by omega)]
                refine ⟨⟨R0.pT D1 (by omega), ok1, ?_, ?_, ?_⟩, rfl⟩
                · rw [putI_ne (by omega)]; exact t7
                · rw [putI_ne (by omega)]; exact t8
                · rw [putI_eq, eE]
              · refine r_iinc hm rfl (hr := (by omega)) (k := ?_)
                refine r_goto (t := 71) hm rfl (k := ?_)
                refine ih (d - 1) (by omega) (q + 1) (by omega) (fun z => ?_) (fun z => by omega)
                rw [eA z, k9 (by omega), if_pos (by omega), show n - q - 1 = n - (q + 1) by omega]
            · refine r_aload_n hm rfl (k := ?_)
              refine r_getI (hm := hm) (hf := rfl) (hd := rfl) (hs := (by first | assumption | exact (g1.1 _).trans rfl)) (hv := (by first | exact putI_eq | exact (putI_ne (by omega)).trans (by first | exact putI_eq | exact (putI_ne (by omega)).trans (by first | first | assumption | exact g1.2 _ _ _ rfl | exact db _ (by omega) | exact dd _ (by omega) | exact dc _ (by omega) | exact dv _ (by omega) | exact hq9) | first | assumption | exact g1.2 _ _ _ rfl | exact db _ (by omega) | exact dd _ (by omega) | exact dc _ (by omega) | exact dv _ (by omega) | exact hq9) | first | assumption | exact g1.2 _ _ _ rfl | exact db _ (by omega) | exact dd _ (by omega) | exact dc _ (by omega) | exact dv _ (by omega) | exact hq9)) (k := ?_)
              refine r_iconst hm rfl (k := ?_)
              refine r_icmp_ne (t := 117) hm rfl rfl (fun c92 => ?_) (fun c92 => ?_)
              · refine r_aload_n hm rfl (k := ?_)
                refine r_iload_n hm rfl (k := ?_)
                refine r_putI (hm := hm) (hf := rfl) (hd := rfl) (hs := (by first | assumption | exact (g1.1 _).trans rfl)) (hfin := Or.inl rfl) (hz := fun q9 => absurd q9 (by decide)) (k := ?_)
                refine r_return hm rfl rfl (Nat.le_of_ble_eq_true rfl) (Nat.le_of_ble_eq_true rfl) ?_
                have eE : tez b n p2 = q := eB (by omega)
                refine ⟨⟨R0.pT D1 (by omega), ok1, ?_, ?_, ?_⟩, rfl⟩
                · rw [putI_ne (by omega)]; exact t7
                · rw [putI_ne (by omega)]; exact t8
                · rw [putI_eq, eE]
              · refine r_aload_n hm rfl (k := ?_)
                refine r_getR (hm := hm) (hf := rfl) (hd := rfl) (hs := (by first | assumption | exact (g1.1 _).trans rfl)) (hv := (by first | exact putI_eq | exact (putI_ne (by omega)).trans (by first | exact putI_eq | exact (putI_ne (by omega)).trans (by first | first | assumption | exact g1.2 _ _ _ rfl | exact db _ (by omega) | exact dd _ (by omega) | exact dc _ (by omega) | exact dv _ (by omega) | exact hq9) | first | assumption | exact g1.2 _ _ _ rfl | exact db _ (by omega) | exact dd _ (by omega) | exact dc _ (by omega) | exact dv _ (by omega) | exact hq9) | first | assumption | exact g1.2 _ _ _ rfl | exact db _ (by omega) | exact dd _ (by omega) | exact dc _ (by omega) | exact dv _ (by omega) | exact hq9)) (k := ?_)
                refine r_iload_n hm rfl (k := ?_)
                refine r_iald (hm := hm) (hf := rfl) (hs := (by first | assumption | exact (g1.1 _).trans rfl)) (kk := q) (hi := by omega) (hn := (by omega)) (hv := (by first | exact putI_eq | exact (putI_ne (by omega)).trans (by first | exact putI_eq | exact (putI_ne (by omega)).trans (by first | first | assumption | exact g1.2 _ _ _ rfl | exact db _ (by omega) | exact dd _ (by omega) | exact dc _ (by omega) | exact dv _ (by omega) | exact hq9) | first | assumption | exact g1.2 _ _ _ rfl | exact db _ (by omega) | exact dd _ (by omega) | exact dc _ (by omega) | exact dv _ (by omega) | exact hq9) | first | assumption | exact g1.2 _ _ _ rfl | exact db _ (by omega) | exact dd _ (by omega) | exact dc _ (by omega) | exact dv _ (by omega) | exact hq9)) (k := ?_)
                refine r_calls (j2 := 137) hm rfl rfl rfl rfl rfl rfl (Nat.le_of_ble_eq_true rfl) (Nat.le_of_ble_eq_true rfl) rfl ⟨Nat.le_of_ble_eq_true rfl, Nat.le_of_ble_eq_true rfl, Nat.le_of_ble_eq_true rfl, Nat.le_of_ble_eq_true rfl, Nat.le_of_ble_eq_true rfl⟩ rfl (c_sortOf) (fun v9 h9 p9 => ?_)
                obtain ⟨e1, e2⟩ := p9
                subst e2
                replace e1 := e1.symm
                subst e1
                change RN 136 104 _ _ _ 0 0 _
                dsimp only [Option.toList, List.cons_append, List.nil_append]
                refine r_aload_n hm rfl (k := ?_)
                refine r_getI (hm := hm) (hf := rfl) (hd := rfl) (hs := (by first | assumption | exact (g1.1 _).trans rfl)) (hv := (by first | exact putI_eq | exact (putI_ne (by omega)).trans (by first | exact putI_eq | exact (putI_ne (by omega)).trans (by first | first | assumption | exact g1.2 _ _ _ rfl | exact db _ (by omega) | exact dd _ (by omega) | exact dc _ (by omega) | exact dv _ (by omega) | exact hq9) | first | assumption | exact g1.2 _ _ _ rfl | exact db _ (by omega) | exact dd _ (by omega) | exact dc _ (by omega) | exact dv _ (by omega) | exact hq9) | first | assumption | exact g1.2 _ _ _ rfl | exact db _ (by omega) | exact dd _ (by omega) | exact dc _ (by omega) | exact dv _ (by omega) | exact hq9)) (k := ?_)
                refine r_icmp_ne (t := 117) hm rfl rfl (fun c108 => ?_) (fun c108 => ?_)
                · refine r_aload_n hm rfl (k := ?_)
                  refine r_iload_n hm rfl (k := ?_)
                  refine r_putI (hm := hm) (hf := rfl) (hd := rfl) (hs := (by first | assumption | exact (g1.1 _).trans rfl)) (hfin := Or.inl rfl) (hz := fun q9 => absurd q9 (by decide)) (k := ?_)
                  refine r_return hm rfl rfl (Nat.le_of_ble_eq_true rfl) (Nat.le_of_ble_eq_true rfl) ?_
                  have eE : tez b n p2 = q := by
                    rw [eA (by omega), k9 (by omega), if_neg (by omega)]
                  refine ⟨⟨R0.pT D1 (by omega), ok1, ?_, ?_, ?_⟩, rfl⟩
                  · rw [putI_ne (by omega)]; exact t7
                  · rw [putI_ne (by omega)]; exact t8
                  · rw [putI_eq, eE]
                · refine r_iinc hm rfl (hr := (by omega)) (k := ?_)
                  refine r_goto (t := 71) hm rfl (k := ?_)
                  refine ih (d - 1) (by omega) (q + 1) (by omega) (fun z => ?_) (fun z => by omega)
                  rw [eA z, k9 (by omega), if_pos (by omega), show n - q - 1 = n - (q + 1) by omega]
    · refine r_iinc hm rfl (hr := (by omega)) (k := ?_)
      refine r_goto (t := 5) hm rfl (k := ?_)
      exact ih (d - 1) (by omega) (p2 + 1) (by omega) (by rw [← sk_go (by omega) (by omega)]; exact eP)
