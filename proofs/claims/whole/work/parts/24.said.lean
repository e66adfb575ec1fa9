/-! how many letters a count is said with -/
def fgs (n : Int) : Int := if n ≤ 9 then 1 else if n ≤ 99 then 2 else if n ≤ 999 then 3 else 4
def rmd (d : Nat) : Int := ([0, 1, 2, 3, 2, 1, 2, 3, 4, 2] : List Int).getD d 0
def sdn (n : Nat) (f : Int) : Int := if n = 0 then 1 else if f = 1 then (if n ≤ 26 then 1 else 2) else if f = 2 then ((n / 100 : Nat) : Int) + rmd (n / 10 % 10) + rmd (n % 10) else fgs n
/-- the constants' rows -/
def CN (h : Hp) : Prop := (∀ k, h.2.1 1 k = ([0, 1, 2, 3, 2, 1, 2, 3, 4, 2] : List Int).getD k 0) ∧ (∀ k, h.2.1 2 k = ([3, 2, 1, 1] : List Int).getD k 0) ∧ (∀ i k, i < 12 → h.2.1 (15 + i) k = (nStB.getD i []).getD k 0) ∧ (∀ i, i < 12 → h.2.1 (3 + i) 1 = 0) ∧ ∀ i, i < 12 → h.2.2.1 (3 + i) 0 = some (15 + i)
theorem rmd_rng {d : Nat} (h : d < 10) : 0 ≤ rmd d ∧ rmd d ≤ 4 := by
  have : d = 0 ∨ d = 1 ∨ d = 2 ∨ d = 3 ∨ d = 4 ∨ d = 5 ∨ d = 6 ∨ d = 7 ∨ d = 8 ∨ d = 9 := by omega
  rcases this with rfl | rfl | rfl | rfl | rfl | rfl | rfl | rfl | rfl | rfl <;> decide
theorem fgs_rng (n : Int) : 1 ≤ fgs n ∧ fgs n ≤ 4 := by unfold fgs; split <;> (try split) <;> (try split) <;> omega
theorem sdn_rng {n : Nat} {f : Int} (h : n ≤ 100) : 0 ≤ sdn n f ∧ sdn n f ≤ 20 := by
  unfold sdn
  have h1 := rmd_rng (d := n / 10 % 10) (by omega)
  have h2 := rmd_rng (d := n % 10) (by omega)
  have h3 := fgs_rng n
  split <;> (try split) <;> (try split) <;> omega
theorem c_figures {h : Hp} {n : Int} (h0 : 0 ≤ n) (h1 : n ≤ 9999) : RN 43 0 [some (.inl n), none, none] [] h 0 0 (fun v h2 => h2 = h ∧ v = some (.inl (fgs n))) := by
  have hm : mrec 43 = some nM43 := rfl
  refine r_iconst hm rfl (k := ?_)
  refine r_istore_n hm rfl (k := ?_)
  refine r_iload_n hm rfl (k := ?_)
  refine r_bipush hm rfl (k := ?_)
  refine r_idiv hm rfl (hx := (by omega)) (hx2 := (by omega)) (hy := (by omega)) (hy2 := (by omega)) (k := ?_)
  refine r_istore_n hm rfl (k := ?_)
  refine r_iload_n hm rfl (k := ?_)
  refine r_if_le (t := 22) hm rfl rfl (fun c8 => ?_) (fun c8 => ?_)
  · refine r_iload_n hm rfl (k := ?_)
    refine r_ireturn hm rfl rfl (by rfl) (Nat.le_of_ble_eq_true rfl) (Nat.le_of_ble_eq_true rfl) ?_
    exact ⟨rfl, by unfold fgs; congr 2 <;> ((repeat' split) <;> omega)⟩
  · refine r_iinc hm rfl (hr := (by omega)) (k := ?_)
    refine r_iload_n hm rfl (k := ?_)
    refine r_bipush hm rfl (k := ?_)
    refine r_idiv hm rfl (hx := (by omega)) (hx2 := (by omega)) (hy := (by omega)) (hy2 := (by omega)) (k := ?_)
    refine r_istore_n hm rfl (k := ?_)
    refine r_goto (t := 7) hm rfl (k := ?_)
    refine r_iload_n hm rfl (k := ?_)
    refine r_if_le (t := 22) hm rfl rfl (fun c8 => ?_) (fun c8 => ?_)
    · refine r_iload_n hm rfl (k := ?_)
      refine r_ireturn hm rfl rfl (by rfl) (Nat.le_of_ble_eq_true rfl) (Nat.le_of_ble_eq_true rfl) ?_
      exact ⟨rfl, by unfold fgs; congr 2 <;> ((repeat' split) <;> omega)⟩
    · refine r_iinc hm rfl (hr := (by omega)) (k := ?_)
      refine r_iload_n hm rfl (k := ?_)
      refine r_bipush hm rfl (k := ?_)
      refine r_idiv hm rfl (hx := (by omega)) (hx2 := (by omega)) (hy := (by omega)) (hy2 := (by omega)) (k := ?_)
      refine r_istore_n hm rfl (k := ?_)
      refine r_goto (t := 7) hm rfl (k := ?_)
      refine r_iload_n hm rfl (k := ?_)
      refine r_if_le (t := 22) hm rfl rfl (fun c8 => ?_) (fun c8 => ?_)
      · refine r_iload_n hm rfl (k := ?_)
        refine r_ireturn hm rfl rfl (by rfl) (Nat.le_of_ble_eq_true rfl) (Nat.le_of_ble_eq_true rfl) ?_
        exact ⟨rfl, by unfold fgs; congr 2 <;> ((repeat' split) <;> omega)⟩
      · refine r_iinc hm rfl (hr := (by omega)) (k := ?_)
        refine r_iload_n hm rfl (k := ?_)
        refine r_bipush hm rfl (k := ?_)
        refine r_idiv hm rfl (hx := (by omega)) (hx2 := (by omega)) (hy := (by omega)) (hy2 := (by omega)) (k := ?_)
        refine r_istore_n hm rfl (k := ?_)
        refine r_goto (t := 7) hm rfl (k := ?_)
        refine r_iload_n hm rfl (k := ?_)
        refine r_if_le (t := 22) hm rfl rfl (fun c8 => ?_) (fun c8 => ?_)
        · refine r_iload_n hm rfl (k := ?_)
          refine r_ireturn hm rfl rfl (by rfl) (Nat.le_of_ble_eq_true rfl) (Nat.le_of_ble_eq_true rfl) ?_
          exact ⟨rfl, by unfold fgs; congr 2 <;> ((repeat' split) <;> omega)⟩
        · refine r_iinc hm rfl (hr := (by omega)) (k := ?_)
          refine r_iload_n hm rfl (k := ?_)
          refine r_bipush hm rfl (k := ?_)
          refine r_idiv hm rfl (hx := (by omega)) (hx2 := (by omega)) (hy := (by omega)) (hy2 := (by omega)) (k := ?_)
          refine r_istore_n hm rfl (k := ?_)
          refine r_goto (t := 7) hm rfl (k := ?_)
          refine r_iload_n hm rfl (k := ?_)
          refine r_if_le (t := 22) hm rfl rfl (fun c8 => ?_) (fun c8 => ?_)
          · refine r_iload_n hm rfl (k := ?_)
            refine r_ireturn hm rfl rfl (by rfl) (Nat.le_of_ble_eq_true rfl) (Nat.le_of_ble_eq_true rfl) ?_
            exact ⟨rfl, by unfold fgs; congr 2 <;> ((repeat' split) <;> omega)⟩
          · refine r_iinc hm rfl (hr := (by omega)) (k := ?_)
            refine r_iload_n hm rfl (k := ?_)
            refine r_bipush hm rfl (k := ?_)
            refine r_idiv hm rfl (hx := (by omega)) (hx2 := (by omega)) (hy := (by omega)) (hy2 := (by omega)) (k := ?_)
            refine r_istore_n hm rfl (k := ?_)
            refine r_goto (t := 7) hm rfl (k := ?_)
            exfalso; omega
theorem m_figures {h : Hp} {n : Int} (h0 : 0 ≤ n) (h1 : n ≤ 9999) : RN 179 0 [some (.inl n), none, none] [] h 0 0 (fun v h2 => h2 = h ∧ v = some (.inl (fgs n))) := by
  have hm : mrec 179 = some nM179 := rfl
  refine r_iconst hm rfl (k := ?_)
  refine r_istore_n hm rfl (k := ?_)
  refine r_iload_n hm rfl (k := ?_)
  refine r_istore_n hm rfl (k := ?_)
  refine r_iload_n hm rfl (k := ?_)
  refine r_bipush hm rfl (k := ?_)
  refine r_icmp_le (t := 21) hm rfl rfl (fun c7 => ?_) (fun c7 => ?_)
  · refine r_iload_n hm rfl (k := ?_)
    refine r_ireturn hm rfl rfl (by rfl) (Nat.le_of_ble_eq_true rfl) (Nat.le_of_ble_eq_true rfl) ?_
    exact ⟨rfl, by unfold fgs; congr 2 <;> ((repeat' split) <;> omega)⟩
  · refine r_iinc hm rfl (hr := (by omega)) (k := ?_)
    refine r_iload_n hm rfl (k := ?_)
    refine r_bipush hm rfl (k := ?_)
    refine r_idiv hm rfl (hx := (by omega)) (hx2 := (by omega)) (hy := (by omega)) (hy2 := (by omega)) (k := ?_)
    refine r_istore_n hm rfl (k := ?_)
    refine r_goto (t := 4) hm rfl (k := ?_)
    refine r_iload_n hm rfl (k := ?_)
    refine r_bipush hm rfl (k := ?_)
    refine r_icmp_le (t := 21) hm rfl rfl (fun c7 => ?_) (fun c7 => ?_)
    · refine r_iload_n hm rfl (k := ?_)
      refine r_ireturn hm rfl rfl (by rfl) (Nat.le_of_ble_eq_true rfl) (Nat.le_of_ble_eq_true rfl) ?_
      exact ⟨rfl, by unfold fgs; congr 2 <;> ((repeat' split) <;> omega)⟩
    · refine r_iinc hm rfl (hr := (by omega)) (k := ?_)
      refine r_iload_n hm rfl (k := ?_)
      refine r_bipush hm rfl (k := ?_)
      refine r_idiv hm rfl (hx := (by omega)) (hx2 := (by omega)) (hy := (by omega)) (hy2 := (by omega)) (k := ?_)
      refine r_istore_n hm rfl (k := ?_)
      refine r_goto (t := 4) hm rfl (k := ?_)
      refine r_iload_n hm rfl (k := ?_)
      refine r_bipush hm rfl (k := ?_)
      refine r_icmp_le (t := 21) hm rfl rfl (fun c7 => ?_) (fun c7 => ?_)
      · refine r_iload_n hm rfl (k := ?_)
        refine r_ireturn hm rfl rfl (by rfl) (Nat.le_of_ble_eq_true rfl) (Nat.le_of_ble_eq_true rfl) ?_
        exact ⟨rfl, by unfold fgs; congr 2 <;> ((repeat' split) <;> omega)⟩
      · refine r_iinc hm rfl (hr := (by omega)) (k := ?_)
        refine r_iload_n hm rfl (k := ?_)
        refine r_bipush hm rfl (k := ?_)
        refine r_idiv hm rfl (hx := (by omega)) (hx2 := (by omega)) (hy := (by omega)) (hy2 := (by omega)) (k := ?_)
        refine r_istore_n hm rfl (k := ?_)
        refine r_goto (t := 4) hm rfl (k := ?_)
        refine r_iload_n hm rfl (k := ?_)
        refine r_bipush hm rfl (k := ?_)
        refine r_icmp_le (t := 21) hm rfl rfl (fun c7 => ?_) (fun c7 => ?_)
        · refine r_iload_n hm rfl (k := ?_)
          refine r_ireturn hm rfl rfl (by rfl) (Nat.le_of_ble_eq_true rfl) (Nat.le_of_ble_eq_true rfl) ?_
          exact ⟨rfl, by unfold fgs; congr 2 <;> ((repeat' split) <;> omega)⟩
        · refine r_iinc hm rfl (hr := (by omega)) (k := ?_)
          refine r_iload_n hm rfl (k := ?_)
          refine r_bipush hm rfl (k := ?_)
          refine r_idiv hm rfl (hx := (by omega)) (hx2 := (by omega)) (hy := (by omega)) (hy2 := (by omega)) (k := ?_)
          refine r_istore_n hm rfl (k := ?_)
          refine r_goto (t := 4) hm rfl (k := ?_)
          refine r_iload_n hm rfl (k := ?_)
          refine r_bipush hm rfl (k := ?_)
          refine r_icmp_le (t := 21) hm rfl rfl (fun c7 => ?_) (fun c7 => ?_)
          · refine r_iload_n hm rfl (k := ?_)
            refine r_ireturn hm rfl rfl (by rfl) (Nat.le_of_ble_eq_true rfl) (Nat.le_of_ble_eq_true rfl) ?_
            exact ⟨rfl, by unfold fgs; congr 2 <;> ((repeat' split) <;> omega)⟩
          · refine r_iinc hm rfl (hr := (by omega)) (k := ?_)
            refine r_iload_n hm rfl (k := ?_)
            refine r_bipush hm rfl (k := ?_)
            refine r_idiv hm rfl (hx := (by omega)) (hx2 := (by omega)) (hy := (by omega)) (hy2 := (by omega)) (k := ?_)
            refine r_istore_n hm rfl (k := ?_)
            refine r_goto (t := 4) hm rfl (k := ?_)
            exfalso; omega
theorem c_letters {h : Hp} {n : Nat} (h0 : 0 < n) (h1 : n ≤ 100) : RN 41 0 [some (.inl (n : Int)), none, none] [] h 0 0 (fun v h2 => h2 = h ∧ v = some (.inl (if n ≤ 26 then 1 else 2))) := by
  have hm : mrec 41 = some nM41 := rfl
  refine r_iconst hm rfl (k := ?_)
  refine r_istore_n hm rfl (k := ?_)
  refine r_iload_n hm rfl (k := ?_)
  refine r_istore_n hm rfl (k := ?_)
  refine r_iload_n hm rfl (k := ?_)
  refine r_if_le (t := 21) hm rfl rfl (fun c5 => ?_) (fun c5 => ?_)
  · refine r_iload_n hm rfl (k := ?_)
    refine r_ireturn hm rfl rfl (by rfl) (Nat.le_of_ble_eq_true rfl) (Nat.le_of_ble_eq_true rfl) ?_
    exact ⟨rfl, by congr 2 <;> ((repeat' split) <;> omega)⟩
  · refine r_iinc hm rfl (hr := (by omega)) (k := ?_)
    refine r_iload_n hm rfl (k := ?_)
    refine r_iconst hm rfl (k := ?_)
    refine r_isub hm rfl (hr := (by omega)) (k := ?_)
    refine r_bipush hm rfl (k := ?_)
    refine r_idiv hm rfl (hx := (by omega)) (hx2 := (by omega)) (hy := (by omega)) (hy2 := (by omega)) (k := ?_)
    refine r_istore_n hm rfl (k := ?_)
    refine r_goto (t := 4) hm rfl (k := ?_)
    refine r_iload_n hm rfl (k := ?_)
    refine r_if_le (t := 21) hm rfl rfl (fun c5 => ?_) (fun c5 => ?_)
    · refine r_iload_n hm rfl (k := ?_)
      refine r_ireturn hm rfl rfl (by rfl) (Nat.le_of_ble_eq_true rfl) (Nat.le_of_ble_eq_true rfl) ?_
      exact ⟨rfl, by congr 2 <;> ((repeat' split) <;> omega)⟩
    · refine r_iinc hm rfl (hr := (by omega)) (k := ?_)
      refine r_iload_n hm rfl (k := ?_)
      refine r_iconst hm rfl (k := ?_)
      refine r_isub hm rfl (hr := (by omega)) (k := ?_)
      refine r_bipush hm rfl (k := ?_)
      refine r_idiv hm rfl (hx := (by omega)) (hx2 := (by omega)) (hy := (by omega)) (hy2 := (by omega)) (k := ?_)
      refine r_istore_n hm rfl (k := ?_)
      refine r_goto (t := 4) hm rfl (k := ?_)
      refine r_iload_n hm rfl (k := ?_)
      refine r_if_le (t := 21) hm rfl rfl (fun c5 => ?_) (fun c5 => ?_)
      · refine r_iload_n hm rfl (k := ?_)
        refine r_ireturn hm rfl rfl (by rfl) (Nat.le_of_ble_eq_true rfl) (Nat.le_of_ble_eq_true rfl) ?_
        exact ⟨rfl, by congr 2 <;> ((repeat' split) <;> omega)⟩
      · refine r_iinc hm rfl (hr := (by omega)) (k := ?_)
        refine r_iload_n hm rfl (k := ?_)
        refine r_iconst hm rfl (k := ?_)
        refine r_isub hm rfl (hr := (by omega)) (k := ?_)
        refine r_bipush hm rfl (k := ?_)
        refine r_idiv hm rfl (hx := (by omega)) (hx2 := (by omega)) (hy := (by omega)) (hy2 := (by omega)) (k := ?_)
        refine r_istore_n hm rfl (k := ?_)
        refine r_goto (t := 4) hm rfl (k := ?_)
        refine r_iload_n hm rfl (k := ?_)
        refine r_if_le (t := 21) hm rfl rfl (fun c5 => ?_) (fun c5 => ?_)
        · refine r_iload_n hm rfl (k := ?_)
          refine r_ireturn hm rfl rfl (by rfl) (Nat.le_of_ble_eq_true rfl) (Nat.le_of_ble_eq_true rfl) ?_
          exact ⟨rfl, by congr 2 <;> ((repeat' split) <;> omega)⟩
        · refine r_iinc hm rfl (hr := (by omega)) (k := ?_)
          refine r_iload_n hm rfl (k := ?_)
          refine r_iconst hm rfl (k := ?_)
          refine r_isub hm rfl (hr := (by omega)) (k := ?_)
          refine r_bipush hm rfl (k := ?_)
          refine r_idiv hm rfl (hx := (by omega)) (hx2 := (by omega)) (hy := (by omega)) (hy2 := (by omega)) (k := ?_)
          refine r_istore_n hm rfl (k := ?_)
          refine r_goto (t := 4) hm rfl (k := ?_)
          exfalso; omega
theorem c_roman {L : Nat} {h : Hp} (g : GG L h) (C : CN h) {n : Nat} (h1 : n ≤ 100) : RN 42 0 [some (.inl (n : Int))] [] h 0 0 (fun v h2 => h2 = h ∧ v = some (.inl (((n / 100 : Nat) : Int) + rmd (n / 10 % 10) + rmd (n % 10)))) := by
  have hm : mrec 42 = some nM42 := rfl
  refine r_iload_n hm rfl (k := ?_)
  refine r_bipush hm rfl (k := ?_)
  refine r_idiv hm rfl (hx := (by omega)) (hx2 := (by omega)) (hy := (by omega)) (hy2 := (by omega)) (k := ?_)
  refine r_gets hm rfl (hd := rfl) (k := ?_)
  refine r_iload_n hm rfl (k := ?_)
  refine r_bipush hm rfl (k := ?_)
  refine r_idiv hm rfl (hx := (by omega)) (hx2 := (by omega)) (hy := (by omega)) (hy2 := (by omega)) (k := ?_)
  refine r_bipush hm rfl (k := ?_)
  refine r_irem hm rfl (hx := (by omega)) (hx2 := (by omega)) (hy := (by omega)) (hy2 := (by omega)) (k := ?_)
  refine r_iald (hm := hm) (hf := rfl) (hs := (by first | assumption | (rw [g.1]; rfl))) (kk := n / 10 % 10) (hi := by omega) (hn := (by omega)) (hv := (by exact C.1 _)) (k := ?_)
  have h2 := rmd_rng (d := n / 10 % 10) (by omega)
  unfold rmd at h2
  refine r_iadd hm rfl (hr := (by omega)) (k := ?_)
  refine r_gets hm rfl (hd := rfl) (k := ?_)
  refine r_iload_n hm rfl (k := ?_)
  refine r_bipush hm rfl (k := ?_)
  refine r_irem hm rfl (hx := (by omega)) (hx2 := (by omega)) (hy := (by omega)) (hy2 := (by omega)) (k := ?_)
  refine r_iald (hm := hm) (hf := rfl) (hs := (by first | assumption | (rw [g.1]; rfl))) (kk := n % 10) (hi := by omega) (hn := (by omega)) (hv := (by exact C.1 _)) (k := ?_)
  have h3 := rmd_rng (d := n % 10) (by omega)
  unfold rmd at h3
  refine r_iadd hm rfl (hr := (by omega)) (k := ?_)
  refine r_ireturn hm rfl rfl (by rfl) (Nat.le_of_ble_eq_true rfl) (Nat.le_of_ble_eq_true rfl) ?_
  exact ⟨rfl, by unfold rmd; congr 2⟩
theorem c_said {L : Nat} {h : Hp} (g : GG L h) (C : CN h) {n : Nat} {f : Int} (h1 : n ≤ 100) : RN 40 0 [some (.inl (n : Int)), some (.inl f)] [] h 0 0 (fun v h2 => h2 = h ∧ v = some (.inl (sdn n f))) := by
  have hm : mrec 40 = some nM40 := rfl
  refine r_iload_n hm rfl (k := ?_)
  refine r_if_gt (t := 6) hm rfl rfl (fun c1 => ?_) (fun c1 => ?_)
  · refine r_iload_n hm rfl (k := ?_)
    refine r_iconst hm rfl (k := ?_)
    refine r_icmp_ne (t := 16) hm rfl rfl (fun c8 => ?_) (fun c8 => ?_)
    · refine r_iload_n hm rfl (k := ?_)
      refine r_iconst hm rfl (k := ?_)
      refine r_icmp_ne (t := 28) hm rfl rfl (fun c18 => ?_) (fun c18 => ?_)
      · refine r_iload_n hm rfl (k := ?_)
        refine r_calls (j2 := 43) hm rfl rfl rfl rfl rfl rfl (Nat.le_of_ble_eq_true rfl) (Nat.le_of_ble_eq_true rfl) rfl ⟨Nat.le_of_ble_eq_true rfl, Nat.le_of_ble_eq_true rfl, Nat.le_of_ble_eq_true rfl, Nat.le_of_ble_eq_true rfl, Nat.le_of_ble_eq_true rfl⟩ rfl (c_figures (by omega) (by omega)) (fun v9 h9 p9 => ?_)
        obtain ⟨e1, e2⟩ := p9
        subst e2
        subst e1
        change RN 40 32 _ _ _ 0 0 _
        dsimp only [Option.toList, List.cons_append, List.nil_append]
        refine r_ireturn hm rfl rfl (by rfl) (Nat.le_of_ble_eq_true rfl) (Nat.le_of_ble_eq_true rfl) ?_
        exact ⟨rfl, by unfold sdn; congr 2 <;> ((repeat' split) <;> omega)⟩
      · refine r_iload_n hm rfl (k := ?_)
        refine r_calls (j2 := 42) hm rfl rfl rfl rfl rfl rfl (Nat.le_of_ble_eq_true rfl) (Nat.le_of_ble_eq_true rfl) rfl ⟨Nat.le_of_ble_eq_true rfl, Nat.le_of_ble_eq_true rfl, Nat.le_of_ble_eq_true rfl, Nat.le_of_ble_eq_true rfl, Nat.le_of_ble_eq_true rfl⟩ rfl (c_roman g C h1) (fun v9 h9 p9 => ?_)
        obtain ⟨e1, e2⟩ := p9
        subst e2
        subst e1
        change RN 40 25 _ _ _ 0 0 _
        dsimp only [Option.toList, List.cons_append, List.nil_append]
        refine r_goto (t := 32) hm rfl (k := ?_)
        refine r_ireturn hm rfl rfl (by rfl) (Nat.le_of_ble_eq_true rfl) (Nat.le_of_ble_eq_true rfl) ?_
        exact ⟨rfl, by unfold sdn; congr 2 <;> ((repeat' split) <;> omega)⟩
    · refine r_iload_n hm rfl (k := ?_)
      refine r_calls (j2 := 41) hm rfl rfl rfl rfl rfl rfl (Nat.le_of_ble_eq_true rfl) (Nat.le_of_ble_eq_true rfl) rfl ⟨Nat.le_of_ble_eq_true rfl, Nat.le_of_ble_eq_true rfl, Nat.le_of_ble_eq_true rfl, Nat.le_of_ble_eq_true rfl, Nat.le_of_ble_eq_true rfl⟩ rfl (c_letters (by omega) h1) (fun v9 h9 p9 => ?_)
      obtain ⟨e1, e2⟩ := p9
      subst e2
      subst e1
      change RN 40 15 _ _ _ 0 0 _
      dsimp only [Option.toList, List.cons_append, List.nil_append]
      refine r_ireturn hm rfl rfl (by rfl) (Nat.le_of_ble_eq_true rfl) (Nat.le_of_ble_eq_true rfl) ?_
      exact ⟨rfl, by unfold sdn; congr 2 <;> ((repeat' split) <;> omega)⟩
  · refine r_iconst hm rfl (k := ?_)
    refine r_ireturn hm rfl rfl (by rfl) (Nat.le_of_ble_eq_true rfl) (Nat.le_of_ble_eq_true rfl) ?_
    exact ⟨rfl, by unfold sdn; congr 2 <;> ((repeat' split) <;> omega)⟩
theorem m_romanOf {h : Hp} {d : Nat} (h1 : d < 10) : RN 180 0 [some (.inl (d : Int))] [] h 0 0 (fun v h2 => h2 = h ∧ v = some (.inl (rmd d))) := by
  have hm : mrec 180 = some nM180 := rfl
  refine r_iload_n hm rfl (k := ?_)
  refine r_if_ne (t := 8) hm rfl rfl (fun c1 => ?_) (fun c1 => ?_)
  · refine r_iload_n hm rfl (k := ?_)
    refine r_iconst hm rfl (k := ?_)
    refine r_icmp_ge (t := 17) hm rfl rfl (fun c10 => ?_) (fun c10 => ?_)
    · refine r_iload_n hm rfl (k := ?_)
      refine r_iconst hm rfl (k := ?_)
      refine r_icmp_ne (t := 26) hm rfl rfl (fun c19 => ?_) (fun c19 => ?_)
      · refine r_iload_n hm rfl (k := ?_)
        refine r_bipush hm rfl (k := ?_)
        refine r_icmp_ge (t := 38) hm rfl rfl (fun c29 => ?_) (fun c29 => ?_)
        · refine r_iconst hm rfl (k := ?_)
          refine r_ireturn hm rfl rfl (by rfl) (Nat.le_of_ble_eq_true rfl) (Nat.le_of_ble_eq_true rfl) ?_
          exact ⟨rfl, by
            have hd : d = 0 ∨ d = 1 ∨ d = 2 ∨ d = 3 ∨ d = 4 ∨ d = 5 ∨ d = 6 ∨ d = 7 ∨ d = 8 ∨ d = 9 := by omega
            rcases hd with rfl | rfl | rfl | rfl | rfl | rfl | rfl | rfl | rfl | rfl <;> first | rfl | (exfalso; omega)⟩
        · refine r_iload_n hm rfl (k := ?_)
          refine r_iconst hm rfl (k := ?_)
          refine r_isub hm rfl (hr := (by omega)) (k := ?_)
          refine r_goto (t := 39) hm rfl (k := ?_)
          refine r_ireturn hm rfl rfl (by rfl) (Nat.le_of_ble_eq_true rfl) (Nat.le_of_ble_eq_true rfl) ?_
          exact ⟨rfl, by
            have hd : d = 0 ∨ d = 1 ∨ d = 2 ∨ d = 3 ∨ d = 4 ∨ d = 5 ∨ d = 6 ∨ d = 7 ∨ d = 8 ∨ d = 9 := by omega
            rcases hd with rfl | rfl | rfl | rfl | rfl | rfl | rfl | rfl | rfl | rfl <;> first | rfl | (exfalso; omega)⟩
      · refine r_iconst hm rfl (k := ?_)
        refine r_goto (t := 39) hm rfl (k := ?_)
        refine r_ireturn hm rfl rfl (by rfl) (Nat.le_of_ble_eq_true rfl) (Nat.le_of_ble_eq_true rfl) ?_
        exact ⟨rfl, by
          have hd : d = 0 ∨ d = 1 ∨ d = 2 ∨ d = 3 ∨ d = 4 ∨ d = 5 ∨ d = 6 ∨ d = 7 ∨ d = 8 ∨ d = 9 := by omega
          rcases hd with rfl | rfl | rfl | rfl | rfl | rfl | rfl | rfl | rfl | rfl <;> first | rfl | (exfalso; omega)⟩
    · refine r_iload_n hm rfl (k := ?_)
      refine r_goto (t := 39) hm rfl (k := ?_)
      refine r_ireturn hm rfl rfl (by rfl) (Nat.le_of_ble_eq_true rfl) (Nat.le_of_ble_eq_true rfl) ?_
      exact ⟨rfl, by
        have hd : d = 0 ∨ d = 1 ∨ d = 2 ∨ d = 3 ∨ d = 4 ∨ d = 5 ∨ d = 6 ∨ d = 7 ∨ d = 8 ∨ d = 9 := by omega
        rcases hd with rfl | rfl | rfl | rfl | rfl | rfl | rfl | rfl | rfl | rfl <;> first | rfl | (exfalso; omega)⟩
  · refine r_iconst hm rfl (k := ?_)
    refine r_goto (t := 39) hm rfl (k := ?_)
    refine r_ireturn hm rfl rfl (by rfl) (Nat.le_of_ble_eq_true rfl) (Nat.le_of_ble_eq_true rfl) ?_
    exact ⟨rfl, by
      have hd : d = 0 ∨ d = 1 ∨ d = 2 ∨ d = 3 ∨ d = 4 ∨ d = 5 ∨ d = 6 ∨ d = 7 ∨ d = 8 ∨ d = 9 := by omega
      rcases hd with rfl | rfl | rfl | rfl | rfl | rfl | rfl | rfl | rfl | rfl <;> first | rfl | (exfalso; omega)⟩
theorem m_saidBy {h : Hp} {n : Nat} {f : Int} (h1 : n ≤ 100) (hf : 0 ≤ f ∧ f ≤ 2) : RN 178 0 [some (.inl (n : Int)), some (.inl f)] [] h 0 0 (fun v h2 => h2 = h ∧ v = some (.inl (sdn n f))) := by
  have hm : mrec 178 = some nM178 := rfl
  refine r_iload_n hm rfl (k := ?_)
  refine r_if_ne (t := 6) hm rfl rfl (fun c1 => ?_) (fun c1 => ?_)
  · refine r_iload_n hm rfl (k := ?_)
    refine r_if_ne (t := 15) hm rfl rfl (fun c7 => ?_) (fun c7 => ?_)
    · refine r_iload_n hm rfl (k := ?_)
      refine r_iconst hm rfl (k := ?_)
      refine r_icmp_ne (t := 43) hm rfl rfl (fun c17 => ?_) (fun c17 => ?_)
      · refine r_iload_n hm rfl (k := ?_)
        refine r_bipush hm rfl (k := ?_)
        refine r_idiv hm rfl (hx := (by omega)) (hx2 := (by omega)) (hy := (by omega)) (hy2 := (by omega)) (k := ?_)
        refine r_iload_n hm rfl (k := ?_)
        refine r_bipush hm rfl (k := ?_)
        refine r_idiv hm rfl (hx := (by omega)) (hx2 := (by omega)) (hy := (by omega)) (hy2 := (by omega)) (k := ?_)
        refine r_bipush hm rfl (k := ?_)
        refine r_irem hm rfl (hx := (by omega)) (hx2 := (by omega)) (hy := (by omega)) (hy2 := (by omega)) (k := ?_)
        refine r_calls (j2 := 180) hm rfl rfl rfl rfl rfl rfl (Nat.le_of_ble_eq_true rfl) (Nat.le_of_ble_eq_true rfl) rfl ⟨Nat.le_of_ble_eq_true rfl, Nat.le_of_ble_eq_true rfl, Nat.le_of_ble_eq_true rfl, Nat.le_of_ble_eq_true rfl, Nat.le_of_ble_eq_true rfl⟩ rfl (m_romanOf (d := n / 10 % 10) (by omega)) (fun v9 h9 p9 => ?_)
        obtain ⟨e1, e2⟩ := p9
        subst e2
        subst e1
        have h2 := rmd_rng (d := n / 10 % 10) (by omega)
        change RN 178 57 _ _ _ 0 0 _
        dsimp only [Option.toList, List.cons_append, List.nil_append]
        refine r_iadd hm rfl (hr := (by omega)) (k := ?_)
        refine r_iload_n hm rfl (k := ?_)
        refine r_bipush hm rfl (k := ?_)
        refine r_irem hm rfl (hx := (by omega)) (hx2 := (by omega)) (hy := (by omega)) (hy2 := (by omega)) (k := ?_)
        refine r_calls (j2 := 180) hm rfl rfl rfl rfl rfl rfl (Nat.le_of_ble_eq_true rfl) (Nat.le_of_ble_eq_true rfl) rfl ⟨Nat.le_of_ble_eq_true rfl, Nat.le_of_ble_eq_true rfl, Nat.le_of_ble_eq_true rfl, Nat.le_of_ble_eq_true rfl, Nat.le_of_ble_eq_true rfl⟩ rfl (m_romanOf (d := n % 10) (by omega)) (fun v9 h9 p9 => ?_)
        obtain ⟨e1, e2⟩ := p9
        subst e2
        subst e1
        have h3 := rmd_rng (d := n % 10) (by omega)
        change RN 178 65 _ _ _ 0 0 _
        dsimp only [Option.toList, List.cons_append, List.nil_append]
        refine r_iadd hm rfl (hr := (by omega)) (k := ?_)
        refine r_ireturn hm rfl rfl (by rfl) (Nat.le_of_ble_eq_true rfl) (Nat.le_of_ble_eq_true rfl) ?_
        exact ⟨rfl, by unfold sdn; congr 2 <;> ((repeat' split) <;> omega)⟩
      · refine r_iload_n hm rfl (k := ?_)
        refine r_bipush hm rfl (k := ?_)
        refine r_icmp_gt (t := 30) hm rfl rfl (fun c23 => ?_) (fun c23 => ?_)
        · refine r_iload_n hm rfl (k := ?_)
          refine r_sipush hm rfl (k := ?_)
          refine r_icmp_gt (t := 41) hm rfl rfl (fun c34 => ?_) (fun c34 => ?_)
          · refine r_iconst hm rfl (k := ?_)
            refine r_ireturn hm rfl rfl (by rfl) (Nat.le_of_ble_eq_true rfl) (Nat.le_of_ble_eq_true rfl) ?_
            exact ⟨rfl, by unfold sdn; congr 2 <;> ((repeat' split) <;> omega)⟩
          · refine r_iconst hm rfl (k := ?_)
            refine r_goto (t := 42) hm rfl (k := ?_)
            refine r_ireturn hm rfl rfl (by rfl) (Nat.le_of_ble_eq_true rfl) (Nat.le_of_ble_eq_true rfl) ?_
            exact ⟨rfl, by unfold sdn; congr 2 <;> ((repeat' split) <;> omega)⟩
        · refine r_iconst hm rfl (k := ?_)
          refine r_goto (t := 42) hm rfl (k := ?_)
          refine r_ireturn hm rfl rfl (by rfl) (Nat.le_of_ble_eq_true rfl) (Nat.le_of_ble_eq_true rfl) ?_
          exact ⟨rfl, by unfold sdn; congr 2 <;> ((repeat' split) <;> omega)⟩
    · refine r_iload_n hm rfl (k := ?_)
      refine r_calls (j2 := 179) hm rfl rfl rfl rfl rfl rfl (Nat.le_of_ble_eq_true rfl) (Nat.le_of_ble_eq_true rfl) rfl ⟨Nat.le_of_ble_eq_true rfl, Nat.le_of_ble_eq_true rfl, Nat.le_of_ble_eq_true rfl, Nat.le_of_ble_eq_true rfl, Nat.le_of_ble_eq_true rfl⟩ rfl (m_figures (by omega) (by omega)) (fun v9 h9 p9 => ?_)
      obtain ⟨e1, e2⟩ := p9
      subst e2
      subst e1
      change RN 178 14 _ _ _ 0 0 _
      dsimp only [Option.toList, List.cons_append, List.nil_append]
      refine r_ireturn hm rfl rfl (by rfl) (Nat.le_of_ble_eq_true rfl) (Nat.le_of_ble_eq_true rfl) ?_
      exact ⟨rfl, by unfold sdn; congr 2 <;> ((repeat' split) <;> omega)⟩
  · refine r_iconst hm rfl (k := ?_)
    refine r_ireturn hm rfl rfl (by rfl) (Nat.le_of_ble_eq_true rfl) (Nat.le_of_ble_eq_true rfl) ?_
    exact ⟨rfl, by unfold sdn; congr 2 <;> ((repeat' split) <;> omega)⟩
