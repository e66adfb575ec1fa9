/-! rows filled, the style read, what stays -/
def filI (h : Hp) (a lo hi : Nat) (v : Int) : Hp := (h.1, fun b i => if b = a ∧ lo ≤ i ∧ i < hi then v else h.2.1 b i, h.2.2)
theorem filI_0 {h : Hp} {a lo : Nat} {v : Int} : filI h a lo lo v = h := by
  have e : (fun b i => if b = a ∧ lo ≤ i ∧ i < lo then v else h.2.1 b i) = h.2.1 := by
    funext b i
    rw [if_neg (by omega)]
  unfold filI
  rw [e]
theorem filI_s {h : Hp} {a lo i : Nat} {v : Int} (hi : lo ≤ i) : putI (filI h a lo i v) a i v = filI h a lo (i + 1) v := by
  have e : up2 (fun b i9 => if b = a ∧ lo ≤ i9 ∧ i9 < i then v else h.2.1 b i9) a i v = fun b i9 => if b = a ∧ lo ≤ i9 ∧ i9 < i + 1 then v else h.2.1 b i9 := by
    funext b k
    unfold up2
    by_cases h1 : b = a ∧ k = i
    · rw [if_pos h1, if_pos ⟨h1.1, by omega, by omega⟩]
    · rw [if_neg h1]
      dsimp only
      by_cases h2 : b = a ∧ lo ≤ k ∧ k < i
      · rw [if_pos h2, if_pos ⟨h2.1, by omega, by omega⟩]
      · rw [if_neg h2, if_neg (fun q => h2 ⟨q.1, q.2.1, by have := fun e => h1 ⟨q.1, e⟩; omega⟩)]
  show (h.1, up2 _ a i v, h.2.2.1, h.2.2.2) = _
  unfold filI
  rw [e]
theorem j_fill_l {h : Hp} {a n : Nat} {v : Int} (hs : h.1[a]? = some (100, n)) (ha : 28 ≤ a) (hn : n ≤ 100000) : ∀ d i : Nat, i + d = n → RN 5 5 [some (.inr (.inr (some a))), some (.inl v), some (.inl (i : Int)), some (.inl (n : Int))] [] (filI h a 0 i v) 0 0 (fun u h2 => h2 = filI h a 0 n v ∧ u = none) := by
  have hm : mrec 5 = some nM5 := rfl
  intro d
  induction d with
  | zero =>
    intro i hi
    refine r_iload_n hm rfl (k := ?_)
    refine r_iload_n hm rfl (k := ?_)
    refine r_icmp_ge (t := 20) hm rfl rfl (fun c7 => ?_) (fun c7 => ?_)
    · refine r_return hm rfl rfl (Nat.le_of_ble_eq_true rfl) (Nat.le_of_ble_eq_true rfl) ?_
      exact ⟨by rw [show n = i by omega], rfl⟩
    · exfalso; omega
  | succ d ih =>
    intro i hi
    refine r_iload_n hm rfl (k := ?_)
    refine r_iload_n hm rfl (k := ?_)
    refine r_icmp_ge (t := 20) hm rfl rfl (fun c7 => ?_) (fun c7 => ?_)
    · exfalso; omega
    · refine r_aload_n hm rfl (k := ?_)
      refine r_iload_n hm rfl (k := ?_)
      refine r_iload_n hm rfl (k := ?_)
      refine r_iast (hm := hm) (hf := rfl) (h28 := (by omega)) (hs := (by exact hs)) (hi := rfl) (hn := (by omega)) (k := ?_)
      refine r_iinc hm rfl (hr := (by omega)) (k := ?_)
      refine r_goto (t := 5) hm rfl (k := ?_)
      rw [filI_s (Nat.zero_le _)]
      exact ih (i + 1) (by omega)
theorem j_fill {h : Hp} {a n : Nat} {v : Int} (hs : h.1[a]? = some (100, n)) (ha : 28 ≤ a) (hn : n ≤ 100000) : RN 5 0 [some (.inr (.inr (some a))), some (.inl v), none, none] [] h 0 0 (fun u h2 => h2 = filI h a 0 n v ∧ u = none) := by
  have hm : mrec 5 = some nM5 := rfl
  refine r_iconst hm rfl (k := ?_)
  refine r_istore_n hm rfl (k := ?_)
  refine r_aload_n hm rfl (k := ?_)
  refine r_alen hm rfl (hs := hs) (hn := by omega) (k := ?_)
  refine r_istore_n hm rfl (k := ?_)
  have q9 := j_fill_l (v := v) hs ha hn n 0 (by omega)
  rw [filI_0] at q9
  exact q9
theorem j_range {h : Hp} {n a b : Int} (h1 : 0 ≤ a) (h2 : a ≤ b) (h3 : b ≤ n) : RN 7 0 [some (.inl n), some (.inl a), some (.inl b)] [] h 0 0 (fun u h2 => h2 = h ∧ u = none) := by
  have hm : mrec 7 = some nM7 := rfl
  refine r_iload_n hm rfl (k := ?_)
  refine r_iload_n hm rfl (k := ?_)
  refine r_icmp_le (t := 46) hm rfl rfl (fun c2 => ?_) (fun c2 => ?_)
  · refine r_iload_n hm rfl (k := ?_)
    refine r_if_ge (t := 59) hm rfl rfl (fun c47 => ?_) (fun c47 => ?_)
    · refine r_iload_n hm rfl (k := ?_)
      refine r_iload_n hm rfl (k := ?_)
      refine r_icmp_le (t := 73) hm rfl rfl (fun c61 => ?_) (fun c61 => ?_)
      · refine r_return hm rfl rfl (Nat.le_of_ble_eq_true rfl) (Nat.le_of_ble_eq_true rfl) ?_
        exact ⟨rfl, rfl⟩
      · exfalso; omega
    · exfalso; omega
  · exfalso; omega
theorem j_fill4_l {h : Hp} {a n lo hi : Nat} {v : Int} (hs : h.1[a]? = some (100, n)) (ha : 28 ≤ a) (hh : hi ≤ n) (hn : n ≤ 100000) : ∀ d i : Nat, i + d = hi → lo ≤ i → RN 6 10 [some (.inr (.inr (some a))), some (.inl (lo : Int)), some (.inl (hi : Int)), some (.inl v), some (.inl (i : Int))] [] (filI h a lo i v) 0 0 (fun u h2 => h2 = filI h a lo hi v ∧ u = none) := by
  have hm : mrec 6 = some nM6 := rfl
  intro d
  induction d with
  | zero =>
    intro i hj hlo
    refine r_iload hm rfl (k := ?_)
    refine r_iload_n hm rfl (k := ?_)
    refine r_icmp_ge (t := 27) hm rfl rfl (fun c13 => ?_) (fun c13 => ?_)
    · refine r_return hm rfl rfl (Nat.le_of_ble_eq_true rfl) (Nat.le_of_ble_eq_true rfl) ?_
      exact ⟨by rw [show hi = i by omega], rfl⟩
    · exfalso; omega
  | succ d ih =>
    intro i hj hlo
    refine r_iload hm rfl (k := ?_)
    refine r_iload_n hm rfl (k := ?_)
    refine r_icmp_ge (t := 27) hm rfl rfl (fun c13 => ?_) (fun c13 => ?_)
    · exfalso; omega
    · refine r_aload_n hm rfl (k := ?_)
      refine r_iload hm rfl (k := ?_)
      refine r_iload_n hm rfl (k := ?_)
      refine r_iast (hm := hm) (hf := rfl) (h28 := (by omega)) (hs := (by exact hs)) (hi := rfl) (hn := (by omega)) (k := ?_)
      refine r_iinc hm rfl (hr := (by omega)) (k := ?_)
      refine r_goto (t := 10) hm rfl (k := ?_)
      rw [filI_s (by omega)]
      exact ih (i + 1) (by omega) (by omega)
theorem j_fill4 {h : Hp} {a n lo hi : Nat} {v : Int} (hs : h.1[a]? = some (100, n)) (ha : 28 ≤ a) (hl : lo ≤ hi) (hh : hi ≤ n) (hn : n ≤ 100000) : RN 6 0 [some (.inr (.inr (some a))), some (.inl (lo : Int)), some (.inl (hi : Int)), some (.inl v), none] [] h 0 0 (fun u h2 => h2 = filI h a lo hi v ∧ u = none) := by
  have hm : mrec 6 = some nM6 := rfl
  refine r_aload_n hm rfl (k := ?_)
  refine r_alen hm rfl (hs := hs) (hn := by omega) (k := ?_)
  refine r_iload_n hm rfl (k := ?_)
  refine r_iload_n hm rfl (k := ?_)
  refine r_calls (j2 := 7) hm rfl rfl rfl rfl rfl rfl (Nat.le_of_ble_eq_true rfl) (Nat.le_of_ble_eq_true rfl) rfl ⟨Nat.le_of_ble_eq_true rfl, Nat.le_of_ble_eq_true rfl, Nat.le_of_ble_eq_true rfl, Nat.le_of_ble_eq_true rfl, Nat.le_of_ble_eq_true rfl⟩ rfl (j_range (by omega) (by omega) (by omega)) (fun v9 h9 p9 => ?_)
  obtain ⟨e1, e2⟩ := p9
  subst e2
  subst e1
  change RN 6 7 _ _ _ 0 0 _
  dsimp only [Option.toList, List.nil_append]
  refine r_iload_n hm rfl (k := ?_)
  refine r_istore hm rfl (k := ?_)
  have q9 := j_fill4_l (v := v) hs ha hh hn (lo := lo) (hi := hi) (hi - lo) lo (by omega) (by omega)
  rw [filI_0] at q9
  exact q9
theorem c_height {h : Hp} {s : Nat} (hs1 : h.1[s]? = some (2, 1)) (hs2 : h.1[s + 1]? = some (100, 13)) (hs3 : h.2.2.1 s 0 = some (s + 1)) : RN 53 0 [some (.inr (.inr (some s)))] [] h 0 0 (fun v h2 => h2 = h ∧ v = some (.inl (h.2.1 (s + 1) 0))) := by
  have hm : mrec 53 = some nM53 := rfl
  refine r_aload_n hm rfl (k := ?_)
  refine r_getR (hm := hm) (hf := rfl) (hd := rfl) (hs := (by assumption)) (hv := (by first | assumption | rfl)) (k := ?_)
  refine r_iconst hm rfl (k := ?_)
  refine r_iald (hm := hm) (hf := rfl) (hs := (by assumption)) (kk := 0) (hi := by omega) (hn := (by omega)) (hv := (by first | assumption | rfl)) (k := ?_)
  refine r_ireturn hm rfl rfl (by rfl) (Nat.le_of_ble_eq_true rfl) (Nat.le_of_ble_eq_true rfl) ?_
  exact ⟨rfl, rfl⟩
theorem c_width {h : Hp} {s : Nat} (hs1 : h.1[s]? = some (2, 1)) (hs2 : h.1[s + 1]? = some (100, 13)) (hs3 : h.2.2.1 s 0 = some (s + 1)) : RN 67 0 [some (.inr (.inr (some s)))] [] h 0 0 (fun v h2 => h2 = h ∧ v = some (.inl (h.2.1 (s + 1) 1))) := by
  have hm : mrec 67 = some nM67 := rfl
  refine r_aload_n hm rfl (k := ?_)
  refine r_getR (hm := hm) (hf := rfl) (hd := rfl) (hs := (by assumption)) (hv := (by first | assumption | rfl)) (k := ?_)
  refine r_iconst hm rfl (k := ?_)
  refine r_iald (hm := hm) (hf := rfl) (hs := (by assumption)) (kk := 1) (hi := by omega) (hn := (by omega)) (hv := (by first | assumption | rfl)) (k := ?_)
  refine r_ireturn hm rfl rfl (by rfl) (Nat.le_of_ble_eq_true rfl) (Nat.le_of_ble_eq_true rfl) ?_
  exact ⟨rfl, rfl⟩
theorem c_figuresAnew {h : Hp} {s : Nat} (hs1 : h.1[s]? = some (2, 1)) (hs2 : h.1[s + 1]? = some (100, 13)) (hs3 : h.2.2.1 s 0 = some (s + 1)) : RN 34 0 [some (.inr (.inr (some s)))] [] h 0 0 (fun v h2 => h2 = h ∧ v = some (.inl (if h.2.1 (s + 1) 10 = 1 then 1 else 0))) := by
  have hm : mrec 34 = some nM34 := rfl
  refine r_aload_n hm rfl (k := ?_)
  refine r_getR (hm := hm) (hf := rfl) (hd := rfl) (hs := (by assumption)) (hv := (by first | assumption | rfl)) (k := ?_)
  refine r_bipush hm rfl (k := ?_)
  refine r_iald (hm := hm) (hf := rfl) (hs := (by assumption)) (kk := 10) (hi := by omega) (hn := (by omega)) (hv := (by first | assumption | rfl)) (k := ?_)
  refine r_iconst hm rfl (k := ?_)
  refine r_icmp_ne (t := 15) hm rfl rfl (fun c8 => ?_) (fun c8 => ?_)
  · refine r_iconst hm rfl (k := ?_)
    refine r_ireturn hm rfl rfl (by first | rfl | decide) (Nat.le_of_ble_eq_true rfl) (Nat.le_of_ble_eq_true rfl) ?_
    exact ⟨rfl, by congr 2 <;> ((repeat' split) <;> omega)⟩
  · refine r_iconst hm rfl (k := ?_)
    refine r_goto (t := 16) hm rfl (k := ?_)
    refine r_ireturn hm rfl rfl (by first | rfl | decide) (Nat.le_of_ble_eq_true rfl) (Nat.le_of_ble_eq_true rfl) ?_
    exact ⟨rfl, by congr 2 <;> ((repeat' split) <;> omega)⟩
theorem c_notesAnew {h : Hp} {s : Nat} (hs1 : h.1[s]? = some (2, 1)) (hs2 : h.1[s + 1]? = some (100, 13)) (hs3 : h.2.2.1 s 0 = some (s + 1)) : RN 78 0 [some (.inr (.inr (some s)))] [] h 0 0 (fun v h2 => h2 = h ∧ v = some (.inl (if h.2.1 (s + 1) 11 = 1 then 1 else 0))) := by
  have hm : mrec 78 = some nM78 := rfl
  refine r_aload_n hm rfl (k := ?_)
  refine r_getR (hm := hm) (hf := rfl) (hd := rfl) (hs := (by assumption)) (hv := (by first | assumption | rfl)) (k := ?_)
  refine r_bipush hm rfl (k := ?_)
  refine r_iald (hm := hm) (hf := rfl) (hs := (by assumption)) (kk := 11) (hi := by omega) (hn := (by omega)) (hv := (by first | assumption | rfl)) (k := ?_)
  refine r_iconst hm rfl (k := ?_)
  refine r_icmp_ne (t := 15) hm rfl rfl (fun c8 => ?_) (fun c8 => ?_)
  · refine r_iconst hm rfl (k := ?_)
    refine r_ireturn hm rfl rfl (by first | rfl | decide) (Nat.le_of_ble_eq_true rfl) (Nat.le_of_ble_eq_true rfl) ?_
    exact ⟨rfl, by congr 2 <;> ((repeat' split) <;> omega)⟩
  · refine r_iconst hm rfl (k := ?_)
    refine r_goto (t := 16) hm rfl (k := ?_)
    refine r_ireturn hm rfl rfl (by first | rfl | decide) (Nat.le_of_ble_eq_true rfl) (Nat.le_of_ble_eq_true rfl) ?_
    exact ⟨rfl, by congr 2 <;> ((repeat' split) <;> omega)⟩
theorem c_chaptersNew {h : Hp} {s : Nat} (hs1 : h.1[s]? = some (2, 1)) (hs2 : h.1[s + 1]? = some (100, 13)) (hs3 : h.2.2.1 s 0 = some (s + 1)) : RN 60 0 [some (.inr (.inr (some s)))] [] h 0 0 (fun v h2 => h2 = h ∧ v = some (.inl (if h.2.1 (s + 1) 12 = 1 then 1 else 0))) := by
  have hm : mrec 60 = some nM60 := rfl
  refine r_aload_n hm rfl (k := ?_)
  refine r_getR (hm := hm) (hf := rfl) (hd := rfl) (hs := (by assumption)) (hv := (by first | assumption | rfl)) (k := ?_)
  refine r_bipush hm rfl (k := ?_)
  refine r_iald (hm := hm) (hf := rfl) (hs := (by assumption)) (kk := 12) (hi := by omega) (hn := (by omega)) (hv := (by first | assumption | rfl)) (k := ?_)
  refine r_iconst hm rfl (k := ?_)
  refine r_icmp_ne (t := 15) hm rfl rfl (fun c8 => ?_) (fun c8 => ?_)
  · refine r_iconst hm rfl (k := ?_)
    refine r_ireturn hm rfl rfl (by first | rfl | decide) (Nat.le_of_ble_eq_true rfl) (Nat.le_of_ble_eq_true rfl) ?_
    exact ⟨rfl, by congr 2 <;> ((repeat' split) <;> omega)⟩
  · refine r_iconst hm rfl (k := ?_)
    refine r_goto (t := 16) hm rfl (k := ?_)
    refine r_ireturn hm rfl rfl (by first | rfl | decide) (Nat.le_of_ble_eq_true rfl) (Nat.le_of_ble_eq_true rfl) ?_
    exact ⟨rfl, by congr 2 <;> ((repeat' split) <;> omega)⟩
theorem c_form {h : Hp} {s l : Nat} (h1 : 1 ≤ l) (h2 : l ≤ 4) (hs1 : h.1[s]? = some (2, 1)) (hs2 : h.1[s + 1]? = some (100, 13)) (hs3 : h.2.2.1 s 0 = some (s + 1)) : RN 39 0 [some (.inr (.inr (some s))), some (.inl (l : Int))] [] h 0 0 (fun v h2 => h2 = h ∧ v = some (.inl (h.2.1 (s + 1) (1 + l)))) := by
  have hm : mrec 39 = some nM39 := rfl
  refine r_aload_n hm rfl (k := ?_)
  refine r_getR (hm := hm) (hf := rfl) (hd := rfl) (hs := (by assumption)) (hv := (by first | assumption | rfl)) (k := ?_)
  refine r_iconst hm rfl (k := ?_)
  refine r_iload_n hm rfl (k := ?_)
  refine r_iadd hm rfl (hr := (by omega)) (k := ?_)
  refine r_iconst hm rfl (k := ?_)
  refine r_isub hm rfl (hr := (by omega)) (k := ?_)
  refine r_iald (hm := hm) (hf := rfl) (hs := (by assumption)) (kk := 1 + l) (hi := by omega) (hn := (by omega)) (hv := (by first | assumption | rfl)) (k := ?_)
  refine r_ireturn hm rfl rfl (by rfl) (Nat.le_of_ble_eq_true rfl) (Nat.le_of_ble_eq_true rfl) ?_
  exact ⟨rfl, rfl⟩
theorem c_isLong {h : Hp} {s l : Nat} (h1 : 1 ≤ l) (h2 : l ≤ 4) (hs1 : h.1[s]? = some (2, 1)) (hs2 : h.1[s + 1]? = some (100, 13)) (hs3 : h.2.2.1 s 0 = some (s + 1)) : RN 44 0 [some (.inr (.inr (some s))), some (.inl (l : Int))] [] h 0 0 (fun v h2 => h2 = h ∧ v = some (.inl (if h.2.1 (s + 1) (5 + l) = 1 then 1 else 0))) := by
  have hm : mrec 44 = some nM44 := rfl
  refine r_aload_n hm rfl (k := ?_)
  refine r_getR (hm := hm) (hf := rfl) (hd := rfl) (hs := (by assumption)) (hv := (by first | assumption | rfl)) (k := ?_)
  refine r_bipush hm rfl (k := ?_)
  refine r_iload_n hm rfl (k := ?_)
  refine r_iadd hm rfl (hr := (by omega)) (k := ?_)
  refine r_iconst hm rfl (k := ?_)
  refine r_isub hm rfl (hr := (by omega)) (k := ?_)
  refine r_iald (hm := hm) (hf := rfl) (hs := (by assumption)) (kk := 5 + l) (hi := by omega) (hn := (by omega)) (hv := (by first | assumption | rfl)) (k := ?_)
  refine r_iconst hm rfl (k := ?_)
  refine r_icmp_ne (t := 19) hm rfl rfl (fun c12 => ?_) (fun c12 => ?_)
  · refine r_iconst hm rfl (k := ?_)
    refine r_ireturn hm rfl rfl (by first | rfl | decide) (Nat.le_of_ble_eq_true rfl) (Nat.le_of_ble_eq_true rfl) ?_
    exact ⟨rfl, by congr 2 <;> ((repeat' split) <;> omega)⟩
  · refine r_iconst hm rfl (k := ?_)
    refine r_goto (t := 20) hm rfl (k := ?_)
    refine r_ireturn hm rfl rfl (by first | rfl | decide) (Nat.le_of_ble_eq_true rfl) (Nat.le_of_ble_eq_true rfl) ?_
    exact ⟨rfl, by congr 2 <;> ((repeat' split) <;> omega)⟩
