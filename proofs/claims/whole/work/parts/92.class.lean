/-! constructor of the class -/
theorem alcG_s {h : Hp} {n k a : Nat} (e : a < h.1.length) : (alcG h n k).1[a]? = h.1[a]? := List.getElem?_append_left e
theorem alcG_len {h : Hp} {n k : Nat} : (alcG h n k).1.length = h.1.length + 1 + n := by
  show (h.1 ++ (112, n) :: List.replicate n (100, k)).length = _
  rw [List.length_append, List.length_cons, List.length_replicate]; omega
theorem alcG_s2 {h : Hp} {n k q : Nat} (hq : q < 1 + n) : (alcG h n k).1[h.1.length + q]? = if q = 0 then some (112, n) else some (100, k) := by
  show (h.1 ++ (112, n) :: List.replicate n (100, k))[h.1.length + q]? = _
  rw [List.getElem?_append_right (by omega), show h.1.length + q - h.1.length = q by omega]
  cases q with
  | zero => rfl
  | succ q => rw [if_neg (by omega), List.getElem?_cons_succ, List.getElem?_replicate, if_pos (by omega)]
theorem Ds.grid {h h1 : Hp} {N x len n k9 f M : Nat} {sh : Nat → Option (Nat × Nat)} {F : Nat → Option Nat} {I : Nat → Option Int} {G : Nat → Nat → Option Nat} {Z : Nat → Nat → Option Int} (D : Ds h h1 N x len sh F I G Z) (hM : M = N + len) : Ds h (putR (alcG h1 n k9) x f (some M)) N x (len + 1 + n) (fun q => if q < len then sh q else if q = len then some (112, n) else some (100, k9)) (fun k => if k = f then some M else F k) I (fun q k => if q < len then G q k else if q = len ∧ k < n then some (M + 1 + k) else none) (fun q k => if q < len then Z q k else none) := by
  obtain ⟨d1, d2, d3, d4, d5, d6, d7, d8, d9, d10⟩ := D
  have hl : h1.1.length = M := by rw [d3, hM]
  have gi : ∀ a k, a < M → (alcG h1 n k9).2.1 a k = h1.2.1 a k := fun a k ha => if_neg (by omega)
  have gr : ∀ a k, a < M → (alcG h1 n k9).2.2.1 a k = h1.2.2.1 a k := fun a k ha => by
    show (if a = h1.1.length then _ else if h1.1.length ≤ a then none else h1.2.2.1 a k) = _
    rw [if_neg (by omega), if_neg (by omega)]
  refine ⟨d1, d2, ?_, fun a ha => ?_, fun q hq => ?_, fun a k ha hx => ⟨?_, ?_⟩, fun k b e => ?_, fun k z e => ?_, fun q k b hq e => ?_, fun q k z hq e => ?_⟩
  · show (alcG h1 n k9).1.length = _
    rw [alcG_len, d3]; omega
  · show (alcG h1 n k9).1[a]? = _
    rw [alcG_s (by omega)]; exact d4 a ha
  · show (alcG h1 n k9).1[N + q]? = if q < len then sh q else if q = len then some (112, n) else some (100, k9)
    by_cases c : q < len
    · rw [if_pos c, alcG_s (by omega)]; exact d5 q c
    · rw [if_neg c, show N + q = h1.1.length + (q - len) by omega, alcG_s2 (by omega)]
      by_cases c2 : q = len
      · rw [if_pos c2, if_pos (by omega)]
      · rw [if_neg c2, if_neg (by omega)]
  · show (alcG h1 n k9).2.1 a k = _
    rw [gi a k (by omega)]; exact (d6 a k ha hx).1
  · rw [putR_ne2 (by omega), gr a k (by omega)]; exact (d6 a k ha hx).2
  · dsimp only at e
    by_cases c : k = f
    · rw [if_pos c] at e
      rw [c, putR_eq2]; exact e
    · rw [if_neg c] at e
      rw [putR_ne2 (by omega), gr x k (by omega)]; exact d7 k b e
  · show (alcG h1 n k9).2.1 x k = _
    rw [gi x k (by omega)]; exact d8 k z e
  · dsimp only at e
    rw [putR_ne2 (by omega)]
    by_cases c : q < len
    · rw [if_pos c] at e
      rw [gr _ k (by omega)]; exact d9 q k b c e
    · rw [if_neg c] at e
      by_cases c2 : q = len ∧ k < n
      · rw [if_pos c2] at e
        show (if N + q = h1.1.length then (if k < n then some (h1.1.length + 1 + k) else none) else _) = some b
        rw [if_pos (by omega), if_pos c2.2, hl]; exact e
      · rw [if_neg c2] at e; cases e
  · dsimp only at e
    show (alcG h1 n k9).2.1 (N + q) k = _
    by_cases c : q < len
    · rw [if_pos c] at e
      rw [gi _ k (by omega)]; exact d10 q k z c e
    · rw [if_neg c] at e; cases e
/-- the references of a new object of the class that matter, the items' rows too -/
def rfX (a k : Nat) : Option Nat := if a = 30 then (if k < 60 then some (33 + 4 * k) else none) else if a = 354 then (if k < 60 then some (357 + 4 * k) else none) else if a = 598 then (if k < 60 then some (601 + 4 * k) else none) else if a = 842 then (if k < 60 then some (845 + 4 * k) else none) else rff a k
def zX (a k : Nat) : Option Int := if a = 29 ∨ a = 353 ∨ a = 597 ∨ a = 841 then (if k = 2 then some 0 else none) else if (a = 32 ∨ a = 356 ∨ a = 600 ∨ a = 844) ∧ k < 13 then some (sty0 k) else if a = 274 then (if k < 3 then some 0 else none) else if a = 347 then (if k = 1 then some 0 else if k = 3 then some (-1) else none) else none
theorem rff_no2 {a k : Nat} (hk : 60 ≤ k) : rff a k = none := by
  have t : ∀ p, rfT p k = none := fun p => by unfold rfT; (repeat' split) <;> first | rfl | (exfalso; omega)
  have s : ∀ p, rfSet p k = none := fun p => by unfold rfSet; (repeat' split) <;> first | rfl | (exfalso; omega) | exact getD_no (by show 8 ≤ k; omega) | exact getD_no (by show 7 ≤ k; omega)
  unfold rff
  by_cases c0 : a = 28
  · rw [if_pos c0]; exact getD_no (by show 9 ≤ k; omega)
  rw [if_neg c0]
  by_cases c1 : a < 29
  · rw [if_pos c1]
  rw [if_neg c1]
  by_cases c2 : a < 273
  · rw [if_pos c2]; rw [t]; rfl
  rw [if_neg c2]
  by_cases c3 : a = 273
  · rw [if_pos c3]; exact getD_no (by show 3 ≤ k; omega)
  rw [if_neg c3]
  by_cases c4 : a = 275
  · rw [if_pos c4]; exact if_neg (by omega)
  rw [if_neg c4]
  by_cases c5 : a = 281
  · rw [if_pos c5]; exact if_neg (by omega)
  rw [if_neg c5]
  by_cases c6 : a < 294
  · rw [if_pos c6]
  rw [if_neg c6]
  by_cases c7 : a < 319
  · rw [if_pos c7]; rw [if_neg (by omega), s]; rfl
  rw [if_neg c7]
  by_cases c8 : a < 344
  · rw [if_pos c8]; rw [if_neg (by omega), s]; rfl
  rw [if_neg c8]
  by_cases c9 : a = 344
  · rw [if_pos c9]; exact if_neg (by omega)
  rw [if_neg c9]
  by_cases c10 : a = 347
  · rw [if_pos c10]; exact getD_no (by show 7 ≤ k; omega)
  rw [if_neg c10]
  by_cases c11 : a = 348
  · rw [if_pos c11]; exact if_neg (by omega)
  rw [if_neg c11]
  by_cases c12 : a < 353
  · rw [if_pos c12]
  rw [if_neg c12]
  by_cases c13 : a < 597
  · rw [if_pos c13]; rw [t]; rfl
  rw [if_neg c13]
  by_cases c14 : a < 841
  · rw [if_pos c14]; rw [t]; rfl
  rw [if_neg c14]
  by_cases c15 : a < 1085
  · rw [if_pos c15]; rw [t]; rfl
  rw [if_neg c15]
  by_cases c16 : a = 1085
  · rw [if_pos c16]; exact getD_no (l := rfMod) (by show 57 ≤ k; omega)
  rw [if_neg c16]
theorem rfX_no {a k : Nat} (hk : 60 ≤ k) : rfX a k = none := by
  unfold rfX
  rw [rff_no2 hk]
  (repeat' split) <;> first | rfl | (exfalso; omega)
theorem zX_no {a k : Nat} (hk : 13 ≤ k) : zX a k = none := by
  unfold zX
  (repeat' split) <;> first | rfl | (exfalso; omega)
set_option maxHeartbeats 4000000 in
set_option maxRecDepth 8000 in
theorem k_X {h : Hp} {x : Nat} (hx28 : x = 28) (hl : h.1.length = x + 1) (hx : h.1[x]? = some (0, 11)) : RN 1 0 [some (.inr (.inr (some (x)))), none] [] h 0 0 (fun v h2 => Ds h h2 29 28 1056 (fun q => shf 0 (29 + q)) (fun k => rff 28 k) (fun k => if k = 9 ∨ k = 10 then some 0 else none) (fun q k => rfX (29 + q) k) (fun q k => zX (29 + q) k) ∧ v = none) := by
  have hm : mrec 1 = some nM1 := rfl
  have h28 : 28 ≤ x := by omega
  have D := Ds.z (sh := fun _ => none) (G := fun _ _ => none) (Z := fun _ _ => none) hl (Nat.lt_succ_self x)
  refine r_aload_n hm rfl (k := ?_)
  refine r_objinit hm rfl rfl (by omega) (by decide) (Nat.le_of_ble_eq_true rfl) ?_
  refine r_aload_n hm rfl (k := ?_)
  refine r_new hm rfl rfl rfl (Nat.le_of_ble_eq_true rfl) (Nat.le_of_ble_eq_true rfl) ?_
  change RN 1 8 _ _ _ 1 3 _
  rw [D.len]
  refine r_dup hm rfl (k := ?_)
  refine r_calli (j2 := 2) hm rfl rfl rfl rfl rfl rfl rfl (by omega) (Nat.le_of_ble_eq_true rfl) (Nat.le_of_ble_eq_true rfl) rfl ⟨(Nat.le_of_ble_eq_true rfl), (Nat.le_of_ble_eq_true rfl), (Nat.le_of_ble_eq_true rfl), (Nat.le_of_ble_eq_true rfl), (Nat.le_of_ble_eq_true rfl)⟩ rfl (k_Text (x := x + 1 + 0) (by rw [alc_len, D.len]) (by rw [← D.len]; exact alc_s2) (by omega)) (fun v9 h9 p9 => ?_)
  obtain ⟨E, e1⟩ := p9
  subst e1
  change RN 1 12 _ _ _ 244 4157 _
  dsimp only [Option.toList, List.nil_append]
  refine r_putR (hm := hm) (hf := rfl) (hd := rfl) (hs := ((E.2.2.2.1 _ (by omega)).trans ((alc_s (by rw [D.len]; omega)).trans (D.shx.trans hx)))) (hfin := Or.inr ⟨rfl, rfl⟩) (h27 := (fun z => by injection z with z; omega)) (k := ?_)
  refine RN.abs (fun h1 => Ds h h1 (x + 1) x _ _ _ _ _ _) (D.obj rfl E) (fun h1 D => ?_)
  refine r_aload_n hm rfl (k := ?_)
  refine r_iconst hm rfl (k := ?_)
  refine r_newq 111 hm rfl (Or.inr ⟨rfl, rfl⟩) (by decide) (by decide) (Nat.le_of_ble_eq_true rfl) (Nat.le_of_ble_eq_true rfl) ?_
  change RN 1 20 _ _ _ 245 4160 _
  rw [D.len]
  refine r_putR (hm := hm) (hf := rfl) (hd := rfl) (hs := ((alc_s (by rw [D.len]; omega)).trans (D.shx.trans hx))) (hfin := Or.inr ⟨rfl, rfl⟩) (h27 := (fun z => by injection z with z; omega)) (k := ?_)
  refine RN.abs (fun h1 => Ds h h1 (x + 1) x _ _ _ _ _ _) (D.arr rfl) (fun h1 D => ?_)
  refine r_aload_n hm rfl (k := ?_)
  refine r_iconst hm rfl (k := ?_)
  refine r_newz hm rfl (by decide) (by decide) (Nat.le_of_ble_eq_true rfl) (Nat.le_of_ble_eq_true rfl) ?_
  change RN 1 27 _ _ _ 246 4163 _
  rw [D.len]
  refine r_putR (hm := hm) (hf := rfl) (hd := rfl) (hs := ((alc_s (by rw [D.len]; omega)).trans (D.shx.trans hx))) (hfin := Or.inr ⟨rfl, rfl⟩) (h27 := (fun z => by injection z with z; omega)) (k := ?_)
  refine RN.abs (fun h1 => Ds h h1 (x + 1) x _ _ _ _ _ _) (D.arr rfl) (fun h1 D => ?_)
  refine r_aload_n hm rfl (k := ?_)
  refine r_new hm rfl rfl rfl (Nat.le_of_ble_eq_true rfl) (Nat.le_of_ble_eq_true rfl) ?_
  change RN 1 34 _ _ _ 247 4170 _
  rw [D.len]
  refine r_dup hm rfl (k := ?_)
  refine r_calli (j2 := 9) hm rfl rfl rfl rfl rfl rfl rfl (by omega) (Nat.le_of_ble_eq_true rfl) (Nat.le_of_ble_eq_true rfl) rfl ⟨(Nat.le_of_ble_eq_true rfl), (Nat.le_of_ble_eq_true rfl), (Nat.le_of_ble_eq_true rfl), (Nat.le_of_ble_eq_true rfl), (Nat.le_of_ble_eq_true rfl)⟩ rfl (k_Numbers (x := x + 1 + (0 + 1 + 243 + 1 + 1)) (by rw [alc_len, D.len]) (by rw [← D.len]; exact alc_s2) (by omega)) (fun v9 h9 p9 => ?_)
  obtain ⟨E, e1⟩ := p9
  subst e1
  change RN 1 38 _ _ _ 252 4594 _
  dsimp only [Option.toList, List.nil_append]
  refine r_putR (hm := hm) (hf := rfl) (hd := rfl) (hs := ((E.2.2.2.1 _ (by omega)).trans ((alc_s (by rw [D.len]; omega)).trans (D.shx.trans hx)))) (hfin := Or.inr ⟨rfl, rfl⟩) (h27 := (fun z => by injection z with z; omega)) (k := ?_)
  refine RN.abs (fun h1 => Ds h h1 (x + 1) x _ _ _ _ _ _) (D.obj rfl E) (fun h1 D => ?_)
  refine r_aload_n hm rfl (k := ?_)
  refine r_bipush hm rfl (k := ?_)
  refine r_sipush hm rfl (k := ?_)
  refine r_newg hm rfl rfl (by decide) (by decide) (by decide) (by decide) (Nat.le_of_ble_eq_true rfl) (Nat.le_of_ble_eq_true rfl) ?_
  change RN 1 51 _ _ _ 265 19006 _
  rw [D.len]
  refine r_putR (hm := hm) (hf := rfl) (hd := rfl) (hs := ((alcG_s (by rw [D.len]; omega)).trans (D.shx.trans hx))) (hfin := Or.inr ⟨rfl, rfl⟩) (h27 := (fun z => by injection z with z; omega)) (k := ?_)
  refine RN.abs (fun h1 => Ds h h1 (x + 1) x _ _ _ _ _ _) (D.grid (n := 12) (k9 := 1200) rfl) (fun h1 D => ?_)
  refine r_aload_n hm rfl (k := ?_)
  refine r_new hm rfl rfl rfl (Nat.le_of_ble_eq_true rfl) (Nat.le_of_ble_eq_true rfl) ?_
  change RN 1 58 _ _ _ 266 19019 _
  rw [D.len]
  refine r_dup hm rfl (k := ?_)
  refine r_aload_n hm rfl (k := ?_)
  refine r_getR (hm := hm) (hf := rfl) (hd := rfl) (hs := ((alc_s (by rw [D.len]; omega)).trans (D.shx.trans hx))) (hv := ((alc_r (by have := D.len; omega)).trans (D.2.2.2.2.2.2.1 0 _ rfl))) (k := ?_)
  refine r_aload_n hm rfl (k := ?_)
  refine r_getR (hm := hm) (hf := rfl) (hd := rfl) (hs := ((alc_s (by rw [D.len]; omega)).trans (D.shx.trans hx))) (hv := ((alc_r (by have := D.len; omega)).trans (D.2.2.2.2.2.2.1 4 _ rfl))) (k := ?_)
  refine r_calli (j2 := 10) hm rfl rfl rfl rfl rfl rfl rfl (by omega) (Nat.le_of_ble_eq_true rfl) (Nat.le_of_ble_eq_true rfl) rfl ⟨(Nat.le_of_ble_eq_true rfl), (Nat.le_of_ble_eq_true rfl), (Nat.le_of_ble_eq_true rfl), (Nat.le_of_ble_eq_true rfl), (Nat.le_of_ble_eq_true rfl)⟩ rfl (k_Setting (x := x + 1 + (0 + 1 + 243 + 1 + 1 + 1 + 5 + 1 + 12)) (by rw [alc_len, D.len]) (by rw [← D.len]; exact alc_s2) (by omega) (by omega) (by omega)) (fun v9 h9 p9 => ?_)
  obtain ⟨E, e1⟩ := p9
  subst e1
  change RN 1 70 _ _ _ 290 28419 _
  dsimp only [Option.toList, List.nil_append]
  refine r_putR (hm := hm) (hf := rfl) (hd := rfl) (hs := ((E.2.2.2.1 _ (by omega)).trans ((alc_s (by rw [D.len]; omega)).trans (D.shx.trans hx)))) (hfin := Or.inr ⟨rfl, rfl⟩) (h27 := (fun z => by injection z with z; omega)) (k := ?_)
  refine RN.abs (fun h1 => Ds h h1 (x + 1) x _ _ _ _ _ _) (D.obj rfl E) (fun h1 D => ?_)
  refine r_aload_n hm rfl (k := ?_)
  refine r_new hm rfl rfl rfl (Nat.le_of_ble_eq_true rfl) (Nat.le_of_ble_eq_true rfl) ?_
  change RN 1 77 _ _ _ 291 28432 _
  rw [D.len]
  refine r_dup hm rfl (k := ?_)
  refine r_aload_n hm rfl (k := ?_)
  refine r_getR (hm := hm) (hf := rfl) (hd := rfl) (hs := ((alc_s (by rw [D.len]; omega)).trans (D.shx.trans hx))) (hv := ((alc_r (by have := D.len; omega)).trans (D.2.2.2.2.2.2.1 0 _ rfl))) (k := ?_)
  refine r_aload_n hm rfl (k := ?_)
  refine r_getR (hm := hm) (hf := rfl) (hd := rfl) (hs := ((alc_s (by rw [D.len]; omega)).trans (D.shx.trans hx))) (hv := ((alc_r (by have := D.len; omega)).trans (D.2.2.2.2.2.2.1 4 _ rfl))) (k := ?_)
  refine r_calli (j2 := 10) hm rfl rfl rfl rfl rfl rfl rfl (by omega) (Nat.le_of_ble_eq_true rfl) (Nat.le_of_ble_eq_true rfl) rfl ⟨(Nat.le_of_ble_eq_true rfl), (Nat.le_of_ble_eq_true rfl), (Nat.le_of_ble_eq_true rfl), (Nat.le_of_ble_eq_true rfl), (Nat.le_of_ble_eq_true rfl)⟩ rfl (k_Setting (x := x + 1 + (0 + 1 + 243 + 1 + 1 + 1 + 5 + 1 + 12 + 1 + 24)) (by rw [alc_len, D.len]) (by rw [← D.len]; exact alc_s2) (by omega) (by omega) (by omega)) (fun v9 h9 p9 => ?_)
  obtain ⟨E, e1⟩ := p9
  subst e1
  change RN 1 89 _ _ _ 315 37832 _
  dsimp only [Option.toList, List.nil_append]
  refine r_putR (hm := hm) (hf := rfl) (hd := rfl) (hs := ((E.2.2.2.1 _ (by omega)).trans ((alc_s (by rw [D.len]; omega)).trans (D.shx.trans hx)))) (hfin := Or.inr ⟨rfl, rfl⟩) (h27 := (fun z => by injection z with z; omega)) (k := ?_)
  refine RN.abs (fun h1 => Ds h h1 (x + 1) x _ _ _ _ _ _) (D.obj rfl E) (fun h1 D => ?_)
  refine r_aload_n hm rfl (k := ?_)
  refine r_new hm rfl rfl rfl (Nat.le_of_ble_eq_true rfl) (Nat.le_of_ble_eq_true rfl) ?_
  change RN 1 96 _ _ _ 316 37834 _
  rw [D.len]
  refine r_dup hm rfl (k := ?_)
  refine r_calli (j2 := 13) hm rfl rfl rfl rfl rfl rfl rfl (by omega) (Nat.le_of_ble_eq_true rfl) (Nat.le_of_ble_eq_true rfl) rfl ⟨(Nat.le_of_ble_eq_true rfl), (Nat.le_of_ble_eq_true rfl), (Nat.le_of_ble_eq_true rfl), (Nat.le_of_ble_eq_true rfl), (Nat.le_of_ble_eq_true rfl)⟩ rfl (k_Sections (x := x + 1 + (0 + 1 + 243 + 1 + 1 + 1 + 5 + 1 + 12 + 1 + 24 + 1 + 24)) (by rw [alc_len, D.len]) (by rw [← D.len]; exact alc_s2) (by omega)) (fun v9 h9 p9 => ?_)
  obtain ⟨E, e1⟩ := p9
  subst e1
  change RN 1 100 _ _ _ 318 37956 _
  dsimp only [Option.toList, List.nil_append]
  refine r_putR (hm := hm) (hf := rfl) (hd := rfl) (hs := ((E.2.2.2.1 _ (by omega)).trans ((alc_s (by rw [D.len]; omega)).trans (D.shx.trans hx)))) (hfin := Or.inr ⟨rfl, rfl⟩) (h27 := (fun z => by injection z with z; omega)) (k := ?_)
  refine RN.abs (fun h1 => Ds h h1 (x + 1) x _ _ _ _ _ _) (D.obj rfl E) (fun h1 D => ?_)
  refine r_aload_n hm rfl (k := ?_)
  refine r_new hm rfl rfl rfl (Nat.le_of_ble_eq_true rfl) (Nat.le_of_ble_eq_true rfl) ?_
  change RN 1 107 _ _ _ 319 37966 _
  rw [D.len]
  refine r_dup hm rfl (k := ?_)
  refine r_calli (j2 := 14) hm rfl rfl rfl rfl rfl rfl rfl (by omega) (Nat.le_of_ble_eq_true rfl) (Nat.le_of_ble_eq_true rfl) rfl ⟨(Nat.le_of_ble_eq_true rfl), (Nat.le_of_ble_eq_true rfl), (Nat.le_of_ble_eq_true rfl), (Nat.le_of_ble_eq_true rfl), (Nat.le_of_ble_eq_true rfl)⟩ rfl (k_Reader (x := x + 1 + (0 + 1 + 243 + 1 + 1 + 1 + 5 + 1 + 12 + 1 + 24 + 1 + 24 + 1 + 2)) (by rw [alc_len, D.len]) (by rw [← D.len]; exact alc_s2) (by omega)) (fun v9 h9 p9 => ?_)
  obtain ⟨E, e1⟩ := p9
  subst e1
  change RN 1 111 _ _ _ 324 38149 _
  dsimp only [Option.toList, List.nil_append]
  refine r_putR (hm := hm) (hf := rfl) (hd := rfl) (hs := ((E.2.2.2.1 _ (by omega)).trans ((alc_s (by rw [D.len]; omega)).trans (D.shx.trans hx)))) (hfin := Or.inr ⟨rfl, rfl⟩) (h27 := (fun z => by injection z with z; omega)) (k := ?_)
  refine RN.abs (fun h1 => Ds h h1 (x + 1) x _ _ _ _ _ _) (D.obj rfl E) (fun h1 D => ?_)
  refine r_aload_n hm rfl (k := ?_)
  refine r_iconst hm rfl (k := ?_)
  refine r_putI (hm := hm) (hf := rfl) (hd := rfl) (hs := (D.shx.trans hx)) (hfin := Or.inl rfl) (hz := fun q9 => absurd q9 (by decide)) (k := ?_)
  refine RN.abs (fun h1 => Ds h h1 (x + 1) x _ _ _ _ _ _) (D.int) (fun h1 D => ?_)
  refine r_aload_n hm rfl (k := ?_)
  refine r_iconst hm rfl (k := ?_)
  refine r_putI (hm := hm) (hf := rfl) (hd := rfl) (hs := (D.shx.trans hx)) (hfin := Or.inl rfl) (hz := fun _ => by omega) (k := ?_)
  refine RN.abs (fun h1 => Ds h h1 (x + 1) x _ _ _ _ _ _) (D.int) (fun h1 D => ?_)
  refine r_iconst hm rfl (k := ?_)
  refine r_istore_n hm rfl (k := ?_)
  refine r_iload_n hm rfl (k := ?_)
  refine r_iconst hm rfl (k := ?_)
  refine r_icmp_ge (t := 150) hm rfl rfl (fun c128 => absurd c128 (by decide)) (fun _ => ?_)
  refine r_aload_n hm rfl (k := ?_)
  refine r_getR (hm := hm) (hf := rfl) (hd := rfl) (hs := (D.shx.trans hx)) (hv := D.2.2.2.2.2.2.1 1 _ rfl) (k := ?_)
  refine r_iload_n hm rfl (k := ?_)
  refine r_new hm rfl rfl rfl (Nat.le_of_ble_eq_true rfl) (Nat.le_of_ble_eq_true rfl) ?_
  change RN 1 139 _ _ _ 325 38152 _
  rw [D.len]
  refine r_dup hm rfl (k := ?_)
  refine r_calli (j2 := 2) hm rfl rfl rfl rfl rfl rfl rfl (by omega) (Nat.le_of_ble_eq_true rfl) (Nat.le_of_ble_eq_true rfl) rfl ⟨(Nat.le_of_ble_eq_true rfl), (Nat.le_of_ble_eq_true rfl), (Nat.le_of_ble_eq_true rfl), (Nat.le_of_ble_eq_true rfl), (Nat.le_of_ble_eq_true rfl)⟩ rfl (k_Text (x := x + 1 + (0 + 1 + 243 + 1 + 1 + 1 + 5 + 1 + 12 + 1 + 24 + 1 + 24 + 1 + 2 + 1 + 5)) (by rw [alc_len, D.len]) (by rw [← D.len]; exact alc_s2) (by omega)) (fun v9 h9 p9 => ?_)
  obtain ⟨E, e1⟩ := p9
  subst e1
  change RN 1 143 _ _ _ 568 42306 _
  dsimp only [Option.toList, List.nil_append]
  refine r_aast (hm := hm) (hf := rfl) (hs := ((E.2.2.2.1 _ (by omega)).trans ((alc_s (by rw [D.len]; omega)).trans (D.2.2.2.2.1 244 (by omega))))) (hsb := ((E.2.2.2.1 _ (by omega)).trans (by rw [← D.len]; exact alc_s2))) (hkd := Or.inr ⟨rfl, rfl⟩) (kk := 0) (hi := rfl) (hn := (by omega)) (k := ?_)
  refine RN.abs (fun h1 => Ds h h1 (x + 1) x _ _ _ _ _ _) (D.put (p := 244) (by omega) rfl E) (fun h1 D => ?_)
  refine r_iinc hm rfl (hr := (by decide)) (k := ?_)
  refine r_goto (t := 126) hm rfl (k := ?_)
  refine r_iload_n hm rfl (k := ?_)
  refine r_iconst hm rfl (k := ?_)
  refine r_icmp_ge (t := 150) hm rfl rfl (fun c128 => absurd c128 (by decide)) (fun _ => ?_)
  refine r_aload_n hm rfl (k := ?_)
  refine r_getR (hm := hm) (hf := rfl) (hd := rfl) (hs := (D.shx.trans hx)) (hv := D.2.2.2.2.2.2.1 1 _ rfl) (k := ?_)
  refine r_iload_n hm rfl (k := ?_)
  refine r_new hm rfl rfl rfl (Nat.le_of_ble_eq_true rfl) (Nat.le_of_ble_eq_true rfl) ?_
  change RN 1 139 _ _ _ 569 42309 _
  rw [D.len]
  refine r_dup hm rfl (k := ?_)
  refine r_calli (j2 := 2) hm rfl rfl rfl rfl rfl rfl rfl (by omega) (Nat.le_of_ble_eq_true rfl) (Nat.le_of_ble_eq_true rfl) rfl ⟨(Nat.le_of_ble_eq_true rfl), (Nat.le_of_ble_eq_true rfl), (Nat.le_of_ble_eq_true rfl), (Nat.le_of_ble_eq_true rfl), (Nat.le_of_ble_eq_true rfl)⟩ rfl (k_Text (x := x + 1 + (0 + 1 + 243 + 1 + 1 + 1 + 5 + 1 + 12 + 1 + 24 + 1 + 24 + 1 + 2 + 1 + 5 + 1 + 243)) (by rw [alc_len, D.len]) (by rw [← D.len]; exact alc_s2) (by omega)) (fun v9 h9 p9 => ?_)
  obtain ⟨E, e1⟩ := p9
  subst e1
  change RN 1 143 _ _ _ 812 46463 _
  dsimp only [Option.toList, List.nil_append]
  refine r_aast (hm := hm) (hf := rfl) (hs := ((E.2.2.2.1 _ (by omega)).trans ((alc_s (by rw [D.len]; omega)).trans (D.2.2.2.2.1 244 (by omega))))) (hsb := ((E.2.2.2.1 _ (by omega)).trans (by rw [← D.len]; exact alc_s2))) (hkd := Or.inr ⟨rfl, rfl⟩) (kk := 1) (hi := rfl) (hn := (by omega)) (k := ?_)
  refine RN.abs (fun h1 => Ds h h1 (x + 1) x _ _ _ _ _ _) (D.put (p := 244) (by omega) rfl E) (fun h1 D => ?_)
  refine r_iinc hm rfl (hr := (by decide)) (k := ?_)
  refine r_goto (t := 126) hm rfl (k := ?_)
  refine r_iload_n hm rfl (k := ?_)
  refine r_iconst hm rfl (k := ?_)
  refine r_icmp_ge (t := 150) hm rfl rfl (fun c128 => absurd c128 (by decide)) (fun _ => ?_)
  refine r_aload_n hm rfl (k := ?_)
  refine r_getR (hm := hm) (hf := rfl) (hd := rfl) (hs := (D.shx.trans hx)) (hv := D.2.2.2.2.2.2.1 1 _ rfl) (k := ?_)
  refine r_iload_n hm rfl (k := ?_)
  refine r_new hm rfl rfl rfl (Nat.le_of_ble_eq_true rfl) (Nat.le_of_ble_eq_true rfl) ?_
  change RN 1 139 _ _ _ 813 46466 _
  rw [D.len]
  refine r_dup hm rfl (k := ?_)
  refine r_calli (j2 := 2) hm rfl rfl rfl rfl rfl rfl rfl (by omega) (Nat.le_of_ble_eq_true rfl) (Nat.le_of_ble_eq_true rfl) rfl ⟨(Nat.le_of_ble_eq_true rfl), (Nat.le_of_ble_eq_true rfl), (Nat.le_of_ble_eq_true rfl), (Nat.le_of_ble_eq_true rfl), (Nat.le_of_ble_eq_true rfl)⟩ rfl (k_Text (x := x + 1 + (0 + 1 + 243 + 1 + 1 + 1 + 5 + 1 + 12 + 1 + 24 + 1 + 24 + 1 + 2 + 1 + 5 + 1 + 243 + 1 + 243)) (by rw [alc_len, D.len]) (by rw [← D.len]; exact alc_s2) (by omega)) (fun v9 h9 p9 => ?_)
  obtain ⟨E, e1⟩ := p9
  subst e1
  change RN 1 143 _ _ _ 1056 50620 _
  dsimp only [Option.toList, List.nil_append]
  refine r_aast (hm := hm) (hf := rfl) (hs := ((E.2.2.2.1 _ (by omega)).trans ((alc_s (by rw [D.len]; omega)).trans (D.2.2.2.2.1 244 (by omega))))) (hsb := ((E.2.2.2.1 _ (by omega)).trans (by rw [← D.len]; exact alc_s2))) (hkd := Or.inr ⟨rfl, rfl⟩) (kk := 2) (hi := rfl) (hn := (by omega)) (k := ?_)
  refine RN.abs (fun h1 => Ds h h1 (x + 1) x _ _ _ _ _ _) (D.put (p := 244) (by omega) rfl E) (fun h1 D => ?_)
  refine r_iinc hm rfl (hr := (by decide)) (k := ?_)
  refine r_goto (t := 126) hm rfl (k := ?_)
  refine r_iload_n hm rfl (k := ?_)
  refine r_iconst hm rfl (k := ?_)
  refine r_icmp_ge (t := 150) hm rfl rfl (fun _ => ?_) (fun c128 => absurd (by decide) c128)
  refine r_return hm rfl rfl (Nat.le_of_ble_eq_true rfl) (Nat.le_of_ble_eq_true rfl) ?_
  subst hx28
  refine ⟨D.w (fun q hq => ?_) (fun k b e => ?_) (fun k z e => ?_) (fun q k b hq e => ?_) (fun q k z hq e => ?_), rfl⟩
  · revert hq
    revert q
    decide +kernel
  · have hk : k < 60 := Decidable.byContradiction (fun z => by rw [rff_no2 (by omega)] at e; cases e)
    have hs : (rff 28 k).isSome = true := by rw [e]; rfl
    rw [← e]
    clear e
    revert hs
    revert hk
    revert k
    decide +kernel
  · by_cases c : k = 9 ∨ k = 10
    · rcases c with rfl | rfl <;> exact e
    · rw [if_neg c] at e; cases e
  · have hk : k < 60 := Decidable.byContradiction (fun z => by rw [rfX_no (by omega)] at e; cases e)
    have hs : (rfX (29 + q) k).isSome = true := by rw [e]; rfl
    rw [← e]
    clear e
    revert hs
    revert hk
    revert k
    revert hq
    revert q
    decide +kernel
  · have hk : k < 13 := Decidable.byContradiction (fun y => by rw [zX_no (by omega)] at e; cases e)
    have hs : (zX (29 + q) k).isSome = true := by rw [e]; rfl
    rw [← e]
    clear e
    revert hs
    revert hk
    revert k
    revert hq
    revert q
    decide +kernel
