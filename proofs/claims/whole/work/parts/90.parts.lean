/-! constructors of the parts -/
theorem getD_no {α : Type} {l : List (Option α)} {k : Nat} (h : l.length ≤ k) : l.getD k none = none := by rw [List.getD_eq_getElem?_getD, List.getElem?_eq_none h]; rfl
set_option maxRecDepth 8000 in
theorem k_Item {h : Hp} {x : Nat} (hl : h.1.length = x + 1) (hx : h.1[x]? = some (3, 8)) (h28 : 28 ≤ x) : RN 8 0 [some (.inr (.inr (some (x))))] [] h 0 0 (fun v h2 => Ds h h2 (x + 1) x 3 (fun q => ([(100, 20), (100, 20), (100, 20)] : List (Nat × Nat))[q]?) (fun k => ([some (x + 1 + 0), some (x + 1 + 1), some (x + 1 + 2)] : List (Option Nat)).getD k none) (fun _ => none) (fun _ _ => none) (fun _ _ => none) ∧ v = none) := by
  have hm : mrec 8 = some nM8 := rfl
  have D := Ds.z (sh := fun _ => none) (G := fun _ _ => none) (Z := fun _ _ => none) hl (Nat.lt_succ_self x)
  refine r_aload_n hm rfl (k := ?_)
  refine r_objinit hm rfl rfl (by omega) (by decide) (Nat.le_of_ble_eq_true rfl) ?_
  refine r_aload_n hm rfl (k := ?_)
  refine r_bipush hm rfl (k := ?_)
  refine r_newi hm rfl (by decide) (by decide) (Nat.le_of_ble_eq_true rfl) (Nat.le_of_ble_eq_true rfl) ?_
  change RN 8 9 _ _ _ 1 20 _
  rw [D.len]
  refine r_putR (hm := hm) (hf := rfl) (hd := rfl) (hs := ((alc_s (by rw [D.len]; omega)).trans (D.shx.trans hx))) (hfin := Or.inr ⟨rfl, rfl⟩) (h27 := (fun z => by injection z with z; omega)) (k := ?_)
  refine RN.abs (fun h1 => Ds h h1 (x + 1) x _ _ _ _ _ _) (D.arr rfl) (fun h1 D => ?_)
  refine r_aload_n hm rfl (k := ?_)
  refine r_bipush hm rfl (k := ?_)
  refine r_newi hm rfl (by decide) (by decide) (Nat.le_of_ble_eq_true rfl) (Nat.le_of_ble_eq_true rfl) ?_
  change RN 8 17 _ _ _ 2 40 _
  rw [D.len]
  refine r_putR (hm := hm) (hf := rfl) (hd := rfl) (hs := ((alc_s (by rw [D.len]; omega)).trans (D.shx.trans hx))) (hfin := Or.inr ⟨rfl, rfl⟩) (h27 := (fun z => by injection z with z; omega)) (k := ?_)
  refine RN.abs (fun h1 => Ds h h1 (x + 1) x _ _ _ _ _ _) (D.arr rfl) (fun h1 D => ?_)
  refine r_aload_n hm rfl (k := ?_)
  refine r_bipush hm rfl (k := ?_)
  refine r_newi hm rfl (by decide) (by decide) (Nat.le_of_ble_eq_true rfl) (Nat.le_of_ble_eq_true rfl) ?_
  change RN 8 25 _ _ _ 3 60 _
  rw [D.len]
  refine r_putR (hm := hm) (hf := rfl) (hd := rfl) (hs := ((alc_s (by rw [D.len]; omega)).trans (D.shx.trans hx))) (hfin := Or.inr ⟨rfl, rfl⟩) (h27 := (fun z => by injection z with z; omega)) (k := ?_)
  refine RN.abs (fun h1 => Ds h h1 (x + 1) x _ _ _ _ _ _) (D.arr rfl) (fun h1 D => ?_)
  refine r_return hm rfl rfl (Nat.le_of_ble_eq_true rfl) (Nat.le_of_ble_eq_true rfl) ?_
  refine ⟨D.w (fun q hq => ?_) (fun k b e => ?_) (fun k z e => ?_) (fun q k b hq e => ?_) (fun q k z hq e => ?_), rfl⟩
  · have c : q = 0 ∨ q = 1 ∨ q = 2 := by omega
    rcases c with rfl | rfl | rfl <;> rfl
  · by_cases hk : k < 3
    · have c : k = 0 ∨ k = 1 ∨ k = 2 := by omega
      rcases c with rfl | rfl | rfl <;> first | exact e | (cases e; done)
    · exfalso
      rw [getD_no (by show 3 ≤ k; omega)] at e
      cases e
  · cases e
  · cases e
  · cases e
set_option maxRecDepth 8000 in
theorem k_Numbers {h : Hp} {x : Nat} (hl : h.1.length = x + 1) (hx : h.1[x]? = some (4, 7)) (h28 : 28 ≤ x) : RN 9 0 [some (.inr (.inr (some (x))))] [] h 0 0 (fun v h2 => Ds h h2 (x + 1) x 5 (fun q => ([(100, 60), (100, 60), (100, 60), (100, 240), (100, 4)] : List (Nat × Nat))[q]?) (fun k => ([some (x + 1 + 0), some (x + 1 + 1), some (x + 1 + 2), some (x + 1 + 3), some (x + 1 + 4)] : List (Option Nat)).getD k none) (fun _ => none) (fun _ _ => none) (fun _ _ => none) ∧ v = none) := by
  have hm : mrec 9 = some nM9 := rfl
  have D := Ds.z (sh := fun _ => none) (G := fun _ _ => none) (Z := fun _ _ => none) hl (Nat.lt_succ_self x)
  refine r_aload_n hm rfl (k := ?_)
  refine r_objinit hm rfl rfl (by omega) (by decide) (Nat.le_of_ble_eq_true rfl) ?_
  refine r_aload_n hm rfl (k := ?_)
  refine r_bipush hm rfl (k := ?_)
  refine r_newi hm rfl (by decide) (by decide) (Nat.le_of_ble_eq_true rfl) (Nat.le_of_ble_eq_true rfl) ?_
  change RN 9 9 _ _ _ 1 60 _
  rw [D.len]
  refine r_putR (hm := hm) (hf := rfl) (hd := rfl) (hs := ((alc_s (by rw [D.len]; omega)).trans (D.shx.trans hx))) (hfin := Or.inr ⟨rfl, rfl⟩) (h27 := (fun z => by injection z with z; omega)) (k := ?_)
  refine RN.abs (fun h1 => Ds h h1 (x + 1) x _ _ _ _ _ _) (D.arr rfl) (fun h1 D => ?_)
  refine r_aload_n hm rfl (k := ?_)
  refine r_bipush hm rfl (k := ?_)
  refine r_newi hm rfl (by decide) (by decide) (Nat.le_of_ble_eq_true rfl) (Nat.le_of_ble_eq_true rfl) ?_
  change RN 9 17 _ _ _ 2 120 _
  rw [D.len]
  refine r_putR (hm := hm) (hf := rfl) (hd := rfl) (hs := ((alc_s (by rw [D.len]; omega)).trans (D.shx.trans hx))) (hfin := Or.inr ⟨rfl, rfl⟩) (h27 := (fun z => by injection z with z; omega)) (k := ?_)
  refine RN.abs (fun h1 => Ds h h1 (x + 1) x _ _ _ _ _ _) (D.arr rfl) (fun h1 D => ?_)
  refine r_aload_n hm rfl (k := ?_)
  refine r_bipush hm rfl (k := ?_)
  refine r_newi hm rfl (by decide) (by decide) (Nat.le_of_ble_eq_true rfl) (Nat.le_of_ble_eq_true rfl) ?_
  change RN 9 25 _ _ _ 3 180 _
  rw [D.len]
  refine r_putR (hm := hm) (hf := rfl) (hd := rfl) (hs := ((alc_s (by rw [D.len]; omega)).trans (D.shx.trans hx))) (hfin := Or.inr ⟨rfl, rfl⟩) (h27 := (fun z => by injection z with z; omega)) (k := ?_)
  refine RN.abs (fun h1 => Ds h h1 (x + 1) x _ _ _ _ _ _) (D.arr rfl) (fun h1 D => ?_)
  refine r_aload_n hm rfl (k := ?_)
  refine r_sipush hm rfl (k := ?_)
  refine r_newi hm rfl (by decide) (by decide) (Nat.le_of_ble_eq_true rfl) (Nat.le_of_ble_eq_true rfl) ?_
  change RN 9 34 _ _ _ 4 420 _
  rw [D.len]
  refine r_putR (hm := hm) (hf := rfl) (hd := rfl) (hs := ((alc_s (by rw [D.len]; omega)).trans (D.shx.trans hx))) (hfin := Or.inr ⟨rfl, rfl⟩) (h27 := (fun z => by injection z with z; omega)) (k := ?_)
  refine RN.abs (fun h1 => Ds h h1 (x + 1) x _ _ _ _ _ _) (D.arr rfl) (fun h1 D => ?_)
  refine r_aload_n hm rfl (k := ?_)
  refine r_iconst hm rfl (k := ?_)
  refine r_newi hm rfl (by decide) (by decide) (Nat.le_of_ble_eq_true rfl) (Nat.le_of_ble_eq_true rfl) ?_
  change RN 9 41 _ _ _ 5 424 _
  rw [D.len]
  refine r_putR (hm := hm) (hf := rfl) (hd := rfl) (hs := ((alc_s (by rw [D.len]; omega)).trans (D.shx.trans hx))) (hfin := Or.inr ⟨rfl, rfl⟩) (h27 := (fun z => by injection z with z; omega)) (k := ?_)
  refine RN.abs (fun h1 => Ds h h1 (x + 1) x _ _ _ _ _ _) (D.arr rfl) (fun h1 D => ?_)
  refine r_return hm rfl rfl (Nat.le_of_ble_eq_true rfl) (Nat.le_of_ble_eq_true rfl) ?_
  refine ⟨D.w (fun q hq => ?_) (fun k b e => ?_) (fun k z e => ?_) (fun q k b hq e => ?_) (fun q k z hq e => ?_), rfl⟩
  · have c : q = 0 ∨ q = 1 ∨ q = 2 ∨ q = 3 ∨ q = 4 := by omega
    rcases c with rfl | rfl | rfl | rfl | rfl <;> rfl
  · by_cases hk : k < 5
    · have c : k = 0 ∨ k = 1 ∨ k = 2 ∨ k = 3 ∨ k = 4 := by omega
      rcases c with rfl | rfl | rfl | rfl | rfl <;> first | exact e | (cases e; done)
    · exfalso
      rw [getD_no (by show 5 ≤ k; omega)] at e
      cases e
  · cases e
  · cases e
  · cases e
set_option maxRecDepth 8000 in
theorem k_Pages {h : Hp} {x : Nat} (hl : h.1.length = x + 1) (hx : h.1[x]? = some (7, 9)) (h28 : 28 ≤ x) : RN 12 0 [some (.inr (.inr (some (x))))] [] h 0 0 (fun v h2 => Ds h h2 (x + 1) x 5 (fun q => ([(100, 1261), (100, 60), (100, 60), (100, 60), (100, 60)] : List (Nat × Nat))[q]?) (fun k => ([some (x + 1 + 0), some (x + 1 + 1), some (x + 1 + 2), some (x + 1 + 3), some (x + 1 + 4)] : List (Option Nat)).getD k none) (fun _ => none) (fun _ _ => none) (fun _ _ => none) ∧ v = none) := by
  have hm : mrec 12 = some nM12 := rfl
  have D := Ds.z (sh := fun _ => none) (G := fun _ _ => none) (Z := fun _ _ => none) hl (Nat.lt_succ_self x)
  refine r_aload_n hm rfl (k := ?_)
  refine r_objinit hm rfl rfl (by omega) (by decide) (Nat.le_of_ble_eq_true rfl) ?_
  refine r_aload_n hm rfl (k := ?_)
  refine r_sipush hm rfl (k := ?_)
  refine r_newi hm rfl (by decide) (by decide) (Nat.le_of_ble_eq_true rfl) (Nat.le_of_ble_eq_true rfl) ?_
  change RN 12 10 _ _ _ 1 1261 _
  rw [D.len]
  refine r_putR (hm := hm) (hf := rfl) (hd := rfl) (hs := ((alc_s (by rw [D.len]; omega)).trans (D.shx.trans hx))) (hfin := Or.inr ⟨rfl, rfl⟩) (h27 := (fun z => by injection z with z; omega)) (k := ?_)
  refine RN.abs (fun h1 => Ds h h1 (x + 1) x _ _ _ _ _ _) (D.arr rfl) (fun h1 D => ?_)
  refine r_aload_n hm rfl (k := ?_)
  refine r_bipush hm rfl (k := ?_)
  refine r_newi hm rfl (by decide) (by decide) (Nat.le_of_ble_eq_true rfl) (Nat.le_of_ble_eq_true rfl) ?_
  change RN 12 18 _ _ _ 2 1321 _
  rw [D.len]
  refine r_putR (hm := hm) (hf := rfl) (hd := rfl) (hs := ((alc_s (by rw [D.len]; omega)).trans (D.shx.trans hx))) (hfin := Or.inr ⟨rfl, rfl⟩) (h27 := (fun z => by injection z with z; omega)) (k := ?_)
  refine RN.abs (fun h1 => Ds h h1 (x + 1) x _ _ _ _ _ _) (D.arr rfl) (fun h1 D => ?_)
  refine r_aload_n hm rfl (k := ?_)
  refine r_bipush hm rfl (k := ?_)
  refine r_newi hm rfl (by decide) (by decide) (Nat.le_of_ble_eq_true rfl) (Nat.le_of_ble_eq_true rfl) ?_
  change RN 12 26 _ _ _ 3 1381 _
  rw [D.len]
  refine r_putR (hm := hm) (hf := rfl) (hd := rfl) (hs := ((alc_s (by rw [D.len]; omega)).trans (D.shx.trans hx))) (hfin := Or.inr ⟨rfl, rfl⟩) (h27 := (fun z => by injection z with z; omega)) (k := ?_)
  refine RN.abs (fun h1 => Ds h h1 (x + 1) x _ _ _ _ _ _) (D.arr rfl) (fun h1 D => ?_)
  refine r_aload_n hm rfl (k := ?_)
  refine r_bipush hm rfl (k := ?_)
  refine r_newi hm rfl (by decide) (by decide) (Nat.le_of_ble_eq_true rfl) (Nat.le_of_ble_eq_true rfl) ?_
  change RN 12 34 _ _ _ 4 1441 _
  rw [D.len]
  refine r_putR (hm := hm) (hf := rfl) (hd := rfl) (hs := ((alc_s (by rw [D.len]; omega)).trans (D.shx.trans hx))) (hfin := Or.inr ⟨rfl, rfl⟩) (h27 := (fun z => by injection z with z; omega)) (k := ?_)
  refine RN.abs (fun h1 => Ds h h1 (x + 1) x _ _ _ _ _ _) (D.arr rfl) (fun h1 D => ?_)
  refine r_aload_n hm rfl (k := ?_)
  refine r_bipush hm rfl (k := ?_)
  refine r_newi hm rfl (by decide) (by decide) (Nat.le_of_ble_eq_true rfl) (Nat.le_of_ble_eq_true rfl) ?_
  change RN 12 42 _ _ _ 5 1501 _
  rw [D.len]
  refine r_putR (hm := hm) (hf := rfl) (hd := rfl) (hs := ((alc_s (by rw [D.len]; omega)).trans (D.shx.trans hx))) (hfin := Or.inr ⟨rfl, rfl⟩) (h27 := (fun z => by injection z with z; omega)) (k := ?_)
  refine RN.abs (fun h1 => Ds h h1 (x + 1) x _ _ _ _ _ _) (D.arr rfl) (fun h1 D => ?_)
  refine r_aload_n hm rfl (k := ?_)
  refine r_iconst hm rfl (k := ?_)
  refine r_putI (hm := hm) (hf := rfl) (hd := rfl) (hs := (D.shx.trans hx)) (hfin := Or.inl rfl) (hz := fun q9 => absurd q9 (by decide)) (k := ?_)
  refine RN.abs (fun h1 => Ds h h1 (x + 1) x _ _ _ _ _ _) (D.int) (fun h1 D => ?_)
  refine r_return hm rfl rfl (Nat.le_of_ble_eq_true rfl) (Nat.le_of_ble_eq_true rfl) ?_
  refine ⟨D.w (fun q hq => ?_) (fun k b e => ?_) (fun k z e => ?_) (fun q k b hq e => ?_) (fun q k z hq e => ?_), rfl⟩
  · have c : q = 0 ∨ q = 1 ∨ q = 2 ∨ q = 3 ∨ q = 4 := by omega
    rcases c with rfl | rfl | rfl | rfl | rfl <;> rfl
  · by_cases hk : k < 5
    · have c : k = 0 ∨ k = 1 ∨ k = 2 ∨ k = 3 ∨ k = 4 := by omega
      rcases c with rfl | rfl | rfl | rfl | rfl <;> first | exact e | (cases e; done)
    · exfalso
      rw [getD_no (by show 5 ≤ k; omega)] at e
      cases e
  · cases e
  · cases e
  · cases e
set_option maxRecDepth 8000 in
theorem k_Sections {h : Hp} {x : Nat} (hl : h.1.length = x + 1) (hx : h.1[x]? = some (8, 2)) (h28 : 28 ≤ x) : RN 13 0 [some (.inr (.inr (some (x))))] [] h 0 0 (fun v h2 => Ds h h2 (x + 1) x 2 (fun q => ([(102, 61), (102, 61)] : List (Nat × Nat))[q]?) (fun k => ([some (x + 1 + 0), some (x + 1 + 1)] : List (Option Nat)).getD k none) (fun _ => none) (fun _ _ => none) (fun _ _ => none) ∧ v = none) := by
  have hm : mrec 13 = some nM13 := rfl
  have D := Ds.z (sh := fun _ => none) (G := fun _ _ => none) (Z := fun _ _ => none) hl (Nat.lt_succ_self x)
  refine r_aload_n hm rfl (k := ?_)
  refine r_objinit hm rfl rfl (by omega) (by decide) (Nat.le_of_ble_eq_true rfl) ?_
  refine r_aload_n hm rfl (k := ?_)
  refine r_bipush hm rfl (k := ?_)
  refine r_newl hm rfl (by decide) (by decide) (Nat.le_of_ble_eq_true rfl) (Nat.le_of_ble_eq_true rfl) ?_
  change RN 13 9 _ _ _ 1 61 _
  rw [D.len]
  refine r_putR (hm := hm) (hf := rfl) (hd := rfl) (hs := ((alc_s (by rw [D.len]; omega)).trans (D.shx.trans hx))) (hfin := Or.inr ⟨rfl, rfl⟩) (h27 := (fun z => by injection z with z; omega)) (k := ?_)
  refine RN.abs (fun h1 => Ds h h1 (x + 1) x _ _ _ _ _ _) (D.arr rfl) (fun h1 D => ?_)
  refine r_aload_n hm rfl (k := ?_)
  refine r_bipush hm rfl (k := ?_)
  refine r_newl hm rfl (by decide) (by decide) (Nat.le_of_ble_eq_true rfl) (Nat.le_of_ble_eq_true rfl) ?_
  change RN 13 17 _ _ _ 2 122 _
  rw [D.len]
  refine r_putR (hm := hm) (hf := rfl) (hd := rfl) (hs := ((alc_s (by rw [D.len]; omega)).trans (D.shx.trans hx))) (hfin := Or.inr ⟨rfl, rfl⟩) (h27 := (fun z => by injection z with z; omega)) (k := ?_)
  refine RN.abs (fun h1 => Ds h h1 (x + 1) x _ _ _ _ _ _) (D.arr rfl) (fun h1 D => ?_)
  refine r_return hm rfl rfl (Nat.le_of_ble_eq_true rfl) (Nat.le_of_ble_eq_true rfl) ?_
  refine ⟨D.w (fun q hq => ?_) (fun k b e => ?_) (fun k z e => ?_) (fun q k b hq e => ?_) (fun q k z hq e => ?_), rfl⟩
  · have c : q = 0 ∨ q = 1 := by omega
    rcases c with rfl | rfl <;> rfl
  · by_cases hk : k < 2
    · have c : k = 0 ∨ k = 1 := by omega
      rcases c with rfl | rfl <;> first | exact e | (cases e; done)
    · exfalso
      rw [getD_no (by show 2 ≤ k; omega)] at e
      cases e
  · cases e
  · cases e
  · cases e
set_option maxRecDepth 8000 in
theorem k_Layout {h : Hp} {x : Nat} (hl : h.1.length = x + 1) (hx : h.1[x]? = some (6, 7)) (h28 : 28 ≤ x) : RN 11 0 [some (.inr (.inr (some (x))))] [] h 0 0 (fun v h2 => Ds h h2 (x + 1) x 12 (fun q => ([(7, 9), (100, 1261), (100, 60), (100, 60), (100, 60), (100, 60), (100, 60), (100, 60), (100, 1200), (100, 1200), (100, 60), (100, 60)] : List (Nat × Nat))[q]?) (fun k => ([some (x + 1), some (x + 7 + 0), some (x + 7 + 1), some (x + 7 + 2), some (x + 7 + 3), some (x + 7 + 4), some (x + 7 + 5)] : List (Option Nat)).getD k none) (fun _ => none) (fun q k => (([[some (x + 2 + 0), some (x + 2 + 1), some (x + 2 + 2), some (x + 2 + 3), some (x + 2 + 4)]] : List (List (Option Nat))).getD q []).getD k none) (fun _ _ => none) ∧ v = none) := by
  have hm : mrec 11 = some nM11 := rfl
  have D := Ds.z (sh := fun _ => none) (G := fun _ _ => none) (Z := fun _ _ => none) hl (Nat.lt_succ_self x)
  refine r_aload_n hm rfl (k := ?_)
  refine r_objinit hm rfl rfl (by omega) (by decide) (Nat.le_of_ble_eq_true rfl) ?_
  refine r_aload_n hm rfl (k := ?_)
  refine r_new hm rfl rfl rfl (Nat.le_of_ble_eq_true rfl) (Nat.le_of_ble_eq_true rfl) ?_
  change RN 11 8 _ _ _ 1 9 _
  rw [D.len]
  refine r_dup hm rfl (k := ?_)
  refine r_calli (j2 := 12) hm rfl rfl rfl rfl rfl rfl rfl (by omega) (Nat.le_of_ble_eq_true rfl) (Nat.le_of_ble_eq_true rfl) rfl ⟨(Nat.le_of_ble_eq_true rfl), (Nat.le_of_ble_eq_true rfl), (Nat.le_of_ble_eq_true rfl), (Nat.le_of_ble_eq_true rfl), (Nat.le_of_ble_eq_true rfl)⟩ rfl (k_Pages (x := x + 1 + 0) (by rw [alc_len, D.len]) (by rw [← D.len]; exact alc_s2) (by omega)) (fun v9 h9 p9 => ?_)
  obtain ⟨E, e1⟩ := p9
  subst e1
  change RN 11 12 _ _ _ 6 1510 _
  dsimp only [Option.toList, List.nil_append]
  refine r_putR (hm := hm) (hf := rfl) (hd := rfl) (hs := ((E.2.2.2.1 _ (by omega)).trans ((alc_s (by rw [D.len]; omega)).trans (D.shx.trans hx)))) (hfin := Or.inr ⟨rfl, rfl⟩) (h27 := (fun z => by injection z with z; omega)) (k := ?_)
  refine RN.abs (fun h1 => Ds h h1 (x + 1) x _ _ _ _ _ _) (D.obj rfl E) (fun h1 D => ?_)
  refine r_aload_n hm rfl (k := ?_)
  refine r_bipush hm rfl (k := ?_)
  refine r_newi hm rfl (by decide) (by decide) (Nat.le_of_ble_eq_true rfl) (Nat.le_of_ble_eq_true rfl) ?_
  change RN 11 20 _ _ _ 7 1570 _
  rw [D.len]
  refine r_putR (hm := hm) (hf := rfl) (hd := rfl) (hs := ((alc_s (by rw [D.len]; omega)).trans (D.shx.trans hx))) (hfin := Or.inr ⟨rfl, rfl⟩) (h27 := (fun z => by injection z with z; omega)) (k := ?_)
  refine RN.abs (fun h1 => Ds h h1 (x + 1) x _ _ _ _ _ _) (D.arr rfl) (fun h1 D => ?_)
  refine r_aload_n hm rfl (k := ?_)
  refine r_bipush hm rfl (k := ?_)
  refine r_newi hm rfl (by decide) (by decide) (Nat.le_of_ble_eq_true rfl) (Nat.le_of_ble_eq_true rfl) ?_
  change RN 11 28 _ _ _ 8 1630 _
  rw [D.len]
  refine r_putR (hm := hm) (hf := rfl) (hd := rfl) (hs := ((alc_s (by rw [D.len]; omega)).trans (D.shx.trans hx))) (hfin := Or.inr ⟨rfl, rfl⟩) (h27 := (fun z => by injection z with z; omega)) (k := ?_)
  refine RN.abs (fun h1 => Ds h h1 (x + 1) x _ _ _ _ _ _) (D.arr rfl) (fun h1 D => ?_)
  refine r_aload_n hm rfl (k := ?_)
  refine r_sipush hm rfl (k := ?_)
  refine r_newi hm rfl (by decide) (by decide) (Nat.le_of_ble_eq_true rfl) (Nat.le_of_ble_eq_true rfl) ?_
  change RN 11 37 _ _ _ 9 2830 _
  rw [D.len]
  refine r_putR (hm := hm) (hf := rfl) (hd := rfl) (hs := ((alc_s (by rw [D.len]; omega)).trans (D.shx.trans hx))) (hfin := Or.inr ⟨rfl, rfl⟩) (h27 := (fun z => by injection z with z; omega)) (k := ?_)
  refine RN.abs (fun h1 => Ds h h1 (x + 1) x _ _ _ _ _ _) (D.arr rfl) (fun h1 D => ?_)
  refine r_aload_n hm rfl (k := ?_)
  refine r_sipush hm rfl (k := ?_)
  refine r_newi hm rfl (by decide) (by decide) (Nat.le_of_ble_eq_true rfl) (Nat.le_of_ble_eq_true rfl) ?_
  change RN 11 46 _ _ _ 10 4030 _
  rw [D.len]
  refine r_putR (hm := hm) (hf := rfl) (hd := rfl) (hs := ((alc_s (by rw [D.len]; omega)).trans (D.shx.trans hx))) (hfin := Or.inr ⟨rfl, rfl⟩) (h27 := (fun z => by injection z with z; omega)) (k := ?_)
  refine RN.abs (fun h1 => Ds h h1 (x + 1) x _ _ _ _ _ _) (D.arr rfl) (fun h1 D => ?_)
  refine r_aload_n hm rfl (k := ?_)
  refine r_bipush hm rfl (k := ?_)
  refine r_newi hm rfl (by decide) (by decide) (Nat.le_of_ble_eq_true rfl) (Nat.le_of_ble_eq_true rfl) ?_
  change RN 11 54 _ _ _ 11 4090 _
  rw [D.len]
  refine r_putR (hm := hm) (hf := rfl) (hd := rfl) (hs := ((alc_s (by rw [D.len]; omega)).trans (D.shx.trans hx))) (hfin := Or.inr ⟨rfl, rfl⟩) (h27 := (fun z => by injection z with z; omega)) (k := ?_)
  refine RN.abs (fun h1 => Ds h h1 (x + 1) x _ _ _ _ _ _) (D.arr rfl) (fun h1 D => ?_)
  refine r_aload_n hm rfl (k := ?_)
  refine r_bipush hm rfl (k := ?_)
  refine r_newi hm rfl (by decide) (by decide) (Nat.le_of_ble_eq_true rfl) (Nat.le_of_ble_eq_true rfl) ?_
  change RN 11 62 _ _ _ 12 4150 _
  rw [D.len]
  refine r_putR (hm := hm) (hf := rfl) (hd := rfl) (hs := ((alc_s (by rw [D.len]; omega)).trans (D.shx.trans hx))) (hfin := Or.inr ⟨rfl, rfl⟩) (h27 := (fun z => by injection z with z; omega)) (k := ?_)
  refine RN.abs (fun h1 => Ds h h1 (x + 1) x _ _ _ _ _ _) (D.arr rfl) (fun h1 D => ?_)
  refine r_return hm rfl rfl (Nat.le_of_ble_eq_true rfl) (Nat.le_of_ble_eq_true rfl) ?_
  refine ⟨D.w (fun q hq => ?_) (fun k b e => ?_) (fun k z e => ?_) (fun q k b hq e => ?_) (fun q k z hq e => ?_), rfl⟩
  · have c : q = 0 ∨ q = 1 ∨ q = 2 ∨ q = 3 ∨ q = 4 ∨ q = 5 ∨ q = 6 ∨ q = 7 ∨ q = 8 ∨ q = 9 ∨ q = 10 ∨ q = 11 := by omega
    rcases c with rfl | rfl | rfl | rfl | rfl | rfl | rfl | rfl | rfl | rfl | rfl | rfl <;> rfl
  · by_cases hk : k < 7
    · have c : k = 0 ∨ k = 1 ∨ k = 2 ∨ k = 3 ∨ k = 4 ∨ k = 5 ∨ k = 6 := by omega
      rcases c with rfl | rfl | rfl | rfl | rfl | rfl | rfl <;> first | exact e | (cases e; done)
    · exfalso
      rw [getD_no (by show 7 ≤ k; omega)] at e
      cases e
  · cases e
  · have c : q = 0 ∨ q = 1 ∨ q = 2 ∨ q = 3 ∨ q = 4 ∨ q = 5 ∨ q = 6 ∨ q = 7 ∨ q = 8 ∨ q = 9 ∨ q = 10 ∨ q = 11 := by omega
    rcases c with rfl | rfl | rfl | rfl | rfl | rfl | rfl | rfl | rfl | rfl | rfl | rfl
    · by_cases hk : k < 5
      · have c : k = 0 ∨ k = 1 ∨ k = 2 ∨ k = 3 ∨ k = 4 := by omega
        rcases c with rfl | rfl | rfl | rfl | rfl <;> first | exact e | (cases e; done)
      · exfalso
        rw [getD_no (by show 5 ≤ k; omega)] at e
        cases e
    · cases e
    · cases e
    · cases e
    · cases e
    · cases e
    · cases e
    · cases e
    · cases e
    · cases e
    · cases e
    · cases e
  · cases e
theorem Ds.sm {h h1 h2 : Hp} {N x len p : Nat} {W : Nat → Option Int} {sh : Nat → Option (Nat × Nat)} {F : Nat → Option Nat} {I : Nat → Option Int} {G : Nat → Nat → Option Nat} {Z : Nat → Nat → Option Int} (D : Ds h h1 N x len sh F I G Z) (m : Sm (fun a _ => a = N + p) h1 h2) (hW : ∀ k z, W k = some z → h2.2.1 (N + p) k = z) : Ds h h2 N x len sh F I G (fun q k => if q = p then W k else Z q k) := by
  obtain ⟨d1, d2, d3, d4, d5, d6, d7, d8, d9, d10⟩ := D
  refine ⟨d1, d2, by rw [m.1]; exact d3, fun a ha => by rw [m.1]; exact d4 a ha, fun q hq => by rw [m.1]; exact d5 q hq, fun a k ha hx => ⟨?_, by rw [m.2.1]; exact (d6 a k ha hx).2⟩, fun k b e => by rw [m.2.1]; exact d7 k b e, fun k z e => ?_, fun q k b hq e => by rw [m.2.1]; exact d9 q k b hq e, fun q k z hq e => ?_⟩
  · rw [m.2.2 a k (by omega)]; exact (d6 a k ha hx).1
  · rw [m.2.2 x k (by omega)]; exact d8 k z e
  · dsimp only at e
    by_cases c : q = p
    · rw [if_pos c] at e
      rw [c]; exact hW k z e
    · rw [if_neg c] at e
      rw [m.2.2 _ k (by omega)]; exact d10 q k z hq e
set_option maxRecDepth 8000 in
theorem k_Style {h : Hp} {x : Nat} (hl : h.1.length = x + 1) (hx : h.1[x]? = some (2, 1)) (h28 : 28 ≤ x) : RN 3 0 [some (.inr (.inr (some (x))))] [] h 0 0 (fun v h2 => Ds h h2 (x + 1) x 1 (fun _ => some (100, 13)) (fun k => if k = 0 then some (x + 1) else none) (fun _ => none) (fun _ _ => none) (fun q k => if q = 0 then (if k < 13 then some (sty0 k) else none) else none) ∧ v = none) := by
  have hm : mrec 3 = some nM3 := rfl
  have D := Ds.z (sh := fun _ => none) (G := fun _ _ => none) (Z := fun _ _ => none) hl (Nat.lt_succ_self x)
  refine r_aload_n hm rfl (k := ?_)
  refine r_objinit hm rfl rfl (by omega) (by decide) (Nat.le_of_ble_eq_true rfl) ?_
  refine r_aload_n hm rfl (k := ?_)
  refine r_bipush hm rfl (k := ?_)
  refine r_newi hm rfl (by decide) (by decide) (Nat.le_of_ble_eq_true rfl) (Nat.le_of_ble_eq_true rfl) ?_
  change RN 3 9 _ _ _ 1 13 _
  rw [D.len]
  refine r_putR (hm := hm) (hf := rfl) (hd := rfl) (hs := ((alc_s (by rw [D.len]; omega)).trans (D.shx.trans hx))) (hfin := Or.inr ⟨rfl, rfl⟩) (h27 := (fun z => by injection z with z; omega)) (k := ?_)
  refine RN.abs (fun h1 => Ds h h1 (x + 1) x _ _ _ _ _ _) (D.arr rfl) (fun h1 D => ?_)
  refine r_aload_n hm rfl (k := ?_)
  refine r_callv (j2 := 4) hm rfl rfl rfl rfl rfl rfl (D.shx.trans hx) (Nat.le_of_ble_eq_true rfl) (Nat.le_of_ble_eq_true rfl) rfl ⟨(Nat.le_of_ble_eq_true rfl), (Nat.le_of_ble_eq_true rfl), (Nat.le_of_ble_eq_true rfl), (Nat.le_of_ble_eq_true rfl), (Nat.le_of_ble_eq_true rfl)⟩ rfl (c_becomeFirst (s := x) (D.shx.trans hx) (D.2.2.2.2.1 0 (by omega)) (D.2.2.2.2.2.2.1 0 _ rfl) (by omega)) (fun v9 h9 p9 => ?_)
  obtain ⟨SA, eA, e1⟩ := p9
  subst e1
  have E := D.sm (p := 0) (W := fun k => if k < 13 then some (sty0 k) else none) SA (fun k z e => by by_cases c : k < 13; (rw [if_pos c] at e; injection e with e; rw [← e]; exact eA k c); (rw [if_neg c] at e; cases e))
  clear D
  have D := E
  change RN 3 16 _ _ _ 1 13 _
  dsimp only [Option.toList, List.nil_append]
  refine r_return hm rfl rfl (Nat.le_of_ble_eq_true rfl) (Nat.le_of_ble_eq_true rfl) ?_
  refine ⟨D.w (fun q hq => ?_) (fun k b e => ?_) (fun k z e => ?_) (fun q k b hq e => ?_) (fun q k z hq e => ?_), rfl⟩
  · have c : q = 0 := by omega
    rw [c]; rfl
  · exact e
  · cases e
  · cases e
  · have c : q = 0 := by omega
    rw [c] at e ⊢; exact e
set_option maxRecDepth 8000 in
theorem k_Reader {h : Hp} {x : Nat} (hl : h.1.length = x + 1) (hx : h.1[x]? = some (9, 10)) (h28 : 28 ≤ x) : RN 14 0 [some (.inr (.inr (some (x))))] [] h 0 0 (fun v h2 => Ds h h2 (x + 1) x 5 (fun q => ([(2, 1), (100, 13), (100, 160), (101, 4), (101, 5)] : List (Nat × Nat))[q]?) (fun k => ([some (x + 1), none, none, none, some (x + 3), some (x + 4), some (x + 5)] : List (Option Nat)).getD k none) (fun k => ([none, some 0, none, some (-1)] : List (Option Int)).getD k none) (fun q k => (([[some (x + 2)]] : List (List (Option Nat))).getD q []).getD k none) (fun _ _ => none) ∧ v = none) := by
  have hm : mrec 14 = some nM14 := rfl
  have D := Ds.z (sh := fun _ => none) (G := fun _ _ => none) (Z := fun _ _ => none) hl (Nat.lt_succ_self x)
  refine r_aload_n hm rfl (k := ?_)
  refine r_objinit hm rfl rfl (by omega) (by decide) (Nat.le_of_ble_eq_true rfl) ?_
  refine r_aload_n hm rfl (k := ?_)
  refine r_new hm rfl rfl rfl (Nat.le_of_ble_eq_true rfl) (Nat.le_of_ble_eq_true rfl) ?_
  change RN 14 8 _ _ _ 1 1 _
  rw [D.len]
  refine r_dup hm rfl (k := ?_)
  refine r_calli (j2 := 3) hm rfl rfl rfl rfl rfl rfl rfl (by omega) (Nat.le_of_ble_eq_true rfl) (Nat.le_of_ble_eq_true rfl) rfl ⟨(Nat.le_of_ble_eq_true rfl), (Nat.le_of_ble_eq_true rfl), (Nat.le_of_ble_eq_true rfl), (Nat.le_of_ble_eq_true rfl), (Nat.le_of_ble_eq_true rfl)⟩ rfl (k_Style (x := x + 1 + 0) (by rw [alc_len, D.len]) (by rw [← D.len]; exact alc_s2) (by omega)) (fun v9 h9 p9 => ?_)
  obtain ⟨E, e1⟩ := p9
  subst e1
  change RN 14 12 _ _ _ 2 14 _
  dsimp only [Option.toList, List.nil_append]
  refine r_putR (hm := hm) (hf := rfl) (hd := rfl) (hs := ((E.2.2.2.1 _ (by omega)).trans ((alc_s (by rw [D.len]; omega)).trans (D.shx.trans hx)))) (hfin := Or.inr ⟨rfl, rfl⟩) (h27 := (fun z => by injection z with z; omega)) (k := ?_)
  refine RN.abs (fun h1 => Ds h h1 (x + 1) x _ _ _ _ _ _) (D.obj rfl E) (fun h1 D => ?_)
  refine r_aload_n hm rfl (k := ?_)
  refine r_iconst hm rfl (k := ?_)
  refine r_putI (hm := hm) (hf := rfl) (hd := rfl) (hs := (D.shx.trans hx)) (hfin := Or.inl rfl) (hz := fun q9 => absurd q9 (by decide)) (k := ?_)
  refine RN.abs (fun h1 => Ds h h1 (x + 1) x _ _ _ _ _ _) (D.int) (fun h1 D => ?_)
  refine r_aload_n hm rfl (k := ?_)
  refine r_iconst hm rfl (k := ?_)
  refine r_putI (hm := hm) (hf := rfl) (hd := rfl) (hs := (D.shx.trans hx)) (hfin := Or.inl rfl) (hz := fun q9 => absurd q9 (by decide)) (k := ?_)
  refine RN.abs (fun h1 => Ds h h1 (x + 1) x _ _ _ _ _ _) (D.int) (fun h1 D => ?_)
  refine r_aload_n hm rfl (k := ?_)
  refine r_iconst hm rfl (k := ?_)
  refine r_putI (hm := hm) (hf := rfl) (hd := rfl) (hs := (D.shx.trans hx)) (hfin := Or.inl rfl) (hz := fun q9 => absurd q9 (by decide)) (k := ?_)
  refine RN.abs (fun h1 => Ds h h1 (x + 1) x _ _ _ _ _ _) (D.int) (fun h1 D => ?_)
  refine r_aload_n hm rfl (k := ?_)
  refine r_sipush hm rfl (k := ?_)
  refine r_newi hm rfl (by decide) (by decide) (Nat.le_of_ble_eq_true rfl) (Nat.le_of_ble_eq_true rfl) ?_
  change RN 14 36 _ _ _ 3 174 _
  rw [D.len]
  refine r_putR (hm := hm) (hf := rfl) (hd := rfl) (hs := ((alc_s (by rw [D.len]; omega)).trans (D.shx.trans hx))) (hfin := Or.inr ⟨rfl, rfl⟩) (h27 := (fun z => by injection z with z; omega)) (k := ?_)
  refine RN.abs (fun h1 => Ds h h1 (x + 1) x _ _ _ _ _ _) (D.arr rfl) (fun h1 D => ?_)
  refine r_aload_n hm rfl (k := ?_)
  refine r_iconst hm rfl (k := ?_)
  refine r_newz hm rfl (by decide) (by decide) (Nat.le_of_ble_eq_true rfl) (Nat.le_of_ble_eq_true rfl) ?_
  change RN 14 43 _ _ _ 4 178 _
  rw [D.len]
  refine r_putR (hm := hm) (hf := rfl) (hd := rfl) (hs := ((alc_s (by rw [D.len]; omega)).trans (D.shx.trans hx))) (hfin := Or.inr ⟨rfl, rfl⟩) (h27 := (fun z => by injection z with z; omega)) (k := ?_)
  refine RN.abs (fun h1 => Ds h h1 (x + 1) x _ _ _ _ _ _) (D.arr rfl) (fun h1 D => ?_)
  refine r_aload_n hm rfl (k := ?_)
  refine r_iconst hm rfl (k := ?_)
  refine r_newz hm rfl (by decide) (by decide) (Nat.le_of_ble_eq_true rfl) (Nat.le_of_ble_eq_true rfl) ?_
  change RN 14 50 _ _ _ 5 183 _
  rw [D.len]
  refine r_putR (hm := hm) (hf := rfl) (hd := rfl) (hs := ((alc_s (by rw [D.len]; omega)).trans (D.shx.trans hx))) (hfin := Or.inr ⟨rfl, rfl⟩) (h27 := (fun z => by injection z with z; omega)) (k := ?_)
  refine RN.abs (fun h1 => Ds h h1 (x + 1) x _ _ _ _ _ _) (D.arr rfl) (fun h1 D => ?_)
  refine r_return hm rfl rfl (Nat.le_of_ble_eq_true rfl) (Nat.le_of_ble_eq_true rfl) ?_
  refine ⟨D.w (fun q hq => ?_) (fun k b e => ?_) (fun k z e => ?_) (fun q k b hq e => ?_) (fun q k z hq e => ?_), rfl⟩
  · have c : q = 0 ∨ q = 1 ∨ q = 2 ∨ q = 3 ∨ q = 4 := by omega
    rcases c with rfl | rfl | rfl | rfl | rfl <;> rfl
  · by_cases hk : k < 7
    · have c : k = 0 ∨ k = 1 ∨ k = 2 ∨ k = 3 ∨ k = 4 ∨ k = 5 ∨ k = 6 := by omega
      rcases c with rfl | rfl | rfl | rfl | rfl | rfl | rfl <;> first | exact e | (cases e; done)
    · exfalso
      rw [getD_no (by show 7 ≤ k; omega)] at e
      cases e
  · by_cases hk : k < 4
    · have c : k = 0 ∨ k = 1 ∨ k = 2 ∨ k = 3 := by omega
      rcases c with rfl | rfl | rfl | rfl <;> first | exact e | (cases e; done)
    · exfalso
      rw [getD_no (by show 4 ≤ k; omega)] at e
      cases e
  · have c : q = 0 ∨ q = 1 ∨ q = 2 ∨ q = 3 ∨ q = 4 := by omega
    rcases c with rfl | rfl | rfl | rfl | rfl
    · by_cases hk : k < 1
      · have c : k = 0 := by omega
        rcases c with rfl <;> first | exact e | (cases e; done)
      · exfalso
        rw [getD_no (by show 1 ≤ k; omega)] at e
        cases e
    · cases e
    · cases e
    · cases e
    · cases e
  · cases e
set_option maxRecDepth 8000 in
theorem k_Setting {h : Hp} {x : Nat} (hl : h.1.length = x + 1) (hx : h.1[x]? = some (5, 13)) (h28 : 28 ≤ x) {t9 g9 : Nat} (ht9 : t9 ≠ 27) (hg9 : g9 ≠ 27) : RN 10 0 [some (.inr (.inr (some (x)))), some (.inr (.inr (some (t9)))), some (.inr (.inr (some (g9))))] [] h 0 0 (fun v h2 => Ds h h2 (x + 1) x 24 (fun q => shSet[q + 1]?) (fun k => ([some (x + 1), some (x + 14), some (x + 20), some g9, some (x + 21), some (x + 22), some (x + 23), some (x + 24), some t9] : List (Option Nat)).getD k none) (fun _ => none) (fun q k => (([[some (x + 2), some (x + 8), some (x + 9), some (x + 10), some (x + 11), some (x + 12), some (x + 13)], [some (x + 3), some (x + 4), some (x + 5), some (x + 6), some (x + 7)], [], [], [], [], [], [], [], [], [], [], [], [some (x + 15), some (x + 16), some (x + 17), some (x + 18), some (x + 19)]] : List (List (Option Nat))).getD q []).getD k none) (fun _ _ => none) ∧ v = none) := by
  have hm : mrec 10 = some nM10 := rfl
  have D := Ds.z (sh := fun _ => none) (G := fun _ _ => none) (Z := fun _ _ => none) hl (Nat.lt_succ_self x)
  refine r_aload_n hm rfl (k := ?_)
  refine r_objinit hm rfl rfl (by omega) (by decide) (Nat.le_of_ble_eq_true rfl) ?_
  refine r_aload_n hm rfl (k := ?_)
  refine r_new hm rfl rfl rfl (Nat.le_of_ble_eq_true rfl) (Nat.le_of_ble_eq_true rfl) ?_
  change RN 10 8 _ _ _ 1 7 _
  rw [D.len]
  refine r_dup hm rfl (k := ?_)
  refine r_calli (j2 := 11) hm rfl rfl rfl rfl rfl rfl rfl (by omega) (Nat.le_of_ble_eq_true rfl) (Nat.le_of_ble_eq_true rfl) rfl ⟨(Nat.le_of_ble_eq_true rfl), (Nat.le_of_ble_eq_true rfl), (Nat.le_of_ble_eq_true rfl), (Nat.le_of_ble_eq_true rfl), (Nat.le_of_ble_eq_true rfl)⟩ rfl (k_Layout (x := x + 1 + 0) (by rw [alc_len, D.len]) (by rw [← D.len]; exact alc_s2) (by omega)) (fun v9 h9 p9 => ?_)
  obtain ⟨E, e1⟩ := p9
  subst e1
  change RN 10 12 _ _ _ 13 4157 _
  dsimp only [Option.toList, List.nil_append]
  refine r_putR (hm := hm) (hf := rfl) (hd := rfl) (hs := ((E.2.2.2.1 _ (by omega)).trans ((alc_s (by rw [D.len]; omega)).trans (D.shx.trans hx)))) (hfin := Or.inr ⟨rfl, rfl⟩) (h27 := (fun z => by injection z with z; omega)) (k := ?_)
  refine RN.abs (fun h1 => Ds h h1 (x + 1) x _ _ _ _ _ _) (D.obj rfl E) (fun h1 D => ?_)
  refine r_aload_n hm rfl (k := ?_)
  refine r_new hm rfl rfl rfl (Nat.le_of_ble_eq_true rfl) (Nat.le_of_ble_eq_true rfl) ?_
  change RN 10 19 _ _ _ 14 4164 _
  rw [D.len]
  refine r_dup hm rfl (k := ?_)
  refine r_calli (j2 := 9) hm rfl rfl rfl rfl rfl rfl rfl (by omega) (Nat.le_of_ble_eq_true rfl) (Nat.le_of_ble_eq_true rfl) rfl ⟨(Nat.le_of_ble_eq_true rfl), (Nat.le_of_ble_eq_true rfl), (Nat.le_of_ble_eq_true rfl), (Nat.le_of_ble_eq_true rfl), (Nat.le_of_ble_eq_true rfl)⟩ rfl (k_Numbers (x := x + 1 + (0 + 1 + 12)) (by rw [alc_len, D.len]) (by rw [← D.len]; exact alc_s2) (by omega)) (fun v9 h9 p9 => ?_)
  obtain ⟨E, e1⟩ := p9
  subst e1
  change RN 10 23 _ _ _ 19 4588 _
  dsimp only [Option.toList, List.nil_append]
  refine r_putR (hm := hm) (hf := rfl) (hd := rfl) (hs := ((E.2.2.2.1 _ (by omega)).trans ((alc_s (by rw [D.len]; omega)).trans (D.shx.trans hx)))) (hfin := Or.inr ⟨rfl, rfl⟩) (h27 := (fun z => by injection z with z; omega)) (k := ?_)
  refine RN.abs (fun h1 => Ds h h1 (x + 1) x _ _ _ _ _ _) (D.obj rfl E) (fun h1 D => ?_)
  refine r_aload_n hm rfl (k := ?_)
  refine r_bipush hm rfl (k := ?_)
  refine r_newi hm rfl (by decide) (by decide) (Nat.le_of_ble_eq_true rfl) (Nat.le_of_ble_eq_true rfl) ?_
  change RN 10 31 _ _ _ 20 4600 _
  rw [D.len]
  refine r_putR (hm := hm) (hf := rfl) (hd := rfl) (hs := ((alc_s (by rw [D.len]; omega)).trans (D.shx.trans hx))) (hfin := Or.inr ⟨rfl, rfl⟩) (h27 := (fun z => by injection z with z; omega)) (k := ?_)
  refine RN.abs (fun h1 => Ds h h1 (x + 1) x _ _ _ _ _ _) (D.arr rfl) (fun h1 D => ?_)
  refine r_aload_n hm rfl (k := ?_)
  refine r_sipush hm rfl (k := ?_)
  refine r_newi hm rfl (by decide) (by decide) (Nat.le_of_ble_eq_true rfl) (Nat.le_of_ble_eq_true rfl) ?_
  change RN 10 40 _ _ _ 21 5800 _
  rw [D.len]
  refine r_putR (hm := hm) (hf := rfl) (hd := rfl) (hs := ((alc_s (by rw [D.len]; omega)).trans (D.shx.trans hx))) (hfin := Or.inr ⟨rfl, rfl⟩) (h27 := (fun z => by injection z with z; omega)) (k := ?_)
  refine RN.abs (fun h1 => Ds h h1 (x + 1) x _ _ _ _ _ _) (D.arr rfl) (fun h1 D => ?_)
  refine r_aload_n hm rfl (k := ?_)
  refine r_sipush hm rfl (k := ?_)
  refine r_newi hm rfl (by decide) (by decide) (Nat.le_of_ble_eq_true rfl) (Nat.le_of_ble_eq_true rfl) ?_
  change RN 10 49 _ _ _ 22 7000 _
  rw [D.len]
  refine r_putR (hm := hm) (hf := rfl) (hd := rfl) (hs := ((alc_s (by rw [D.len]; omega)).trans (D.shx.trans hx))) (hfin := Or.inr ⟨rfl, rfl⟩) (h27 := (fun z => by injection z with z; omega)) (k := ?_)
  refine RN.abs (fun h1 => Ds h h1 (x + 1) x _ _ _ _ _ _) (D.arr rfl) (fun h1 D => ?_)
  refine r_aload_n hm rfl (k := ?_)
  refine r_sipush hm rfl (k := ?_)
  refine r_newi hm rfl (by decide) (by decide) (Nat.le_of_ble_eq_true rfl) (Nat.le_of_ble_eq_true rfl) ?_
  change RN 10 58 _ _ _ 23 8200 _
  rw [D.len]
  refine r_putR (hm := hm) (hf := rfl) (hd := rfl) (hs := ((alc_s (by rw [D.len]; omega)).trans (D.shx.trans hx))) (hfin := Or.inr ⟨rfl, rfl⟩) (h27 := (fun z => by injection z with z; omega)) (k := ?_)
  refine RN.abs (fun h1 => Ds h h1 (x + 1) x _ _ _ _ _ _) (D.arr rfl) (fun h1 D => ?_)
  refine r_aload_n hm rfl (k := ?_)
  refine r_sipush hm rfl (k := ?_)
  refine r_newi hm rfl (by decide) (by decide) (Nat.le_of_ble_eq_true rfl) (Nat.le_of_ble_eq_true rfl) ?_
  change RN 10 67 _ _ _ 24 9400 _
  rw [D.len]
  refine r_putR (hm := hm) (hf := rfl) (hd := rfl) (hs := ((alc_s (by rw [D.len]; omega)).trans (D.shx.trans hx))) (hfin := Or.inr ⟨rfl, rfl⟩) (h27 := (fun z => by injection z with z; omega)) (k := ?_)
  refine RN.abs (fun h1 => Ds h h1 (x + 1) x _ _ _ _ _ _) (D.arr rfl) (fun h1 D => ?_)
  refine r_aload_n hm rfl (k := ?_)
  refine r_aload_n hm rfl (k := ?_)
  refine r_putR (hm := hm) (hf := rfl) (hd := rfl) (hs := (D.shx.trans hx)) (hfin := Or.inl rfl) (h27 := (fun z => by injection z with z; omega)) (k := ?_)
  refine RN.abs (fun h1 => Ds h h1 (x + 1) x _ _ _ _ _ _) (D.ref) (fun h1 D => ?_)
  refine r_aload_n hm rfl (k := ?_)
  refine r_aload_n hm rfl (k := ?_)
  refine r_putR (hm := hm) (hf := rfl) (hd := rfl) (hs := (D.shx.trans hx)) (hfin := Or.inr ⟨rfl, rfl⟩) (h27 := (fun z => by injection z with z; omega)) (k := ?_)
  refine RN.abs (fun h1 => Ds h h1 (x + 1) x _ _ _ _ _ _) (D.ref) (fun h1 D => ?_)
  refine r_return hm rfl rfl (Nat.le_of_ble_eq_true rfl) (Nat.le_of_ble_eq_true rfl) ?_
  refine ⟨D.w (fun q hq => ?_) (fun k b e => ?_) (fun k z e => ?_) (fun q k b hq e => ?_) (fun q k z hq e => ?_), rfl⟩
  · have c : q = 0 ∨ q = 1 ∨ q = 2 ∨ q = 3 ∨ q = 4 ∨ q = 5 ∨ q = 6 ∨ q = 7 ∨ q = 8 ∨ q = 9 ∨ q = 10 ∨ q = 11 ∨ q = 12 ∨ q = 13 ∨ q = 14 ∨ q = 15 ∨ q = 16 ∨ q = 17 ∨ q = 18 ∨ q = 19 ∨ q = 20 ∨ q = 21 ∨ q = 22 ∨ q = 23 := by omega
    rcases c with rfl | rfl | rfl | rfl | rfl | rfl | rfl | rfl | rfl | rfl | rfl | rfl | rfl | rfl | rfl | rfl | rfl | rfl | rfl | rfl | rfl | rfl | rfl | rfl <;> rfl
  · by_cases hk : k < 9
    · have c : k = 0 ∨ k = 1 ∨ k = 2 ∨ k = 3 ∨ k = 4 ∨ k = 5 ∨ k = 6 ∨ k = 7 ∨ k = 8 := by omega
      rcases c with rfl | rfl | rfl | rfl | rfl | rfl | rfl | rfl | rfl <;> first | exact e | (cases e; done)
    · exfalso
      rw [getD_no (by show 9 ≤ k; omega)] at e
      cases e
  · cases e
  · have c : q = 0 ∨ q = 1 ∨ q = 2 ∨ q = 3 ∨ q = 4 ∨ q = 5 ∨ q = 6 ∨ q = 7 ∨ q = 8 ∨ q = 9 ∨ q = 10 ∨ q = 11 ∨ q = 12 ∨ q = 13 ∨ q = 14 ∨ q = 15 ∨ q = 16 ∨ q = 17 ∨ q = 18 ∨ q = 19 ∨ q = 20 ∨ q = 21 ∨ q = 22 ∨ q = 23 := by omega
    rcases c with rfl | rfl | rfl | rfl | rfl | rfl | rfl | rfl | rfl | rfl | rfl | rfl | rfl | rfl | rfl | rfl | rfl | rfl | rfl | rfl | rfl | rfl | rfl | rfl
    · by_cases hk : k < 7
      · have c : k = 0 ∨ k = 1 ∨ k = 2 ∨ k = 3 ∨ k = 4 ∨ k = 5 ∨ k = 6 := by omega
        rcases c with rfl | rfl | rfl | rfl | rfl | rfl | rfl <;> first | exact e | (cases e; done)
      · exfalso
        rw [getD_no (by show 7 ≤ k; omega)] at e
        cases e
    · by_cases hk : k < 5
      · have c : k = 0 ∨ k = 1 ∨ k = 2 ∨ k = 3 ∨ k = 4 := by omega
        rcases c with rfl | rfl | rfl | rfl | rfl <;> first | exact e | (cases e; done)
      · exfalso
        rw [getD_no (by show 5 ≤ k; omega)] at e
        cases e
    · cases e
    · cases e
    · cases e
    · cases e
    · cases e
    · cases e
    · cases e
    · cases e
    · cases e
    · cases e
    · cases e
    · by_cases hk : k < 5
      · have c : k = 0 ∨ k = 1 ∨ k = 2 ∨ k = 3 ∨ k = 4 := by omega
        rcases c with rfl | rfl | rfl | rfl | rfl <;> first | exact e | (cases e; done)
      · exfalso
        rw [getD_no (by show 5 ≤ k; omega)] at e
        cases e
    · cases e
    · cases e
    · cases e
    · cases e
    · cases e
    · cases e
    · cases e
    · cases e
    · cases e
    · cases e
  · cases e
