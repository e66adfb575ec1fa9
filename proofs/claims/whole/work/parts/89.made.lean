/-! objects made -/
/-- h1 is h (of N cells) with len new cells; of the old ones only x has changed; what is known of x (F, I) and of the new cells (sh, G, Z) -/
def Ds (h h1 : Hp) (N x len : Nat) (sh : Nat → Option (Nat × Nat)) (F : Nat → Option Nat) (I : Nat → Option Int) (G : Nat → Nat → Option Nat) (Z : Nat → Nat → Option Int) : Prop :=
  h.1.length = N ∧ x < N ∧ h1.1.length = N + len ∧ (∀ a, a < N → h1.1[a]? = h.1[a]?) ∧ (∀ q, q < len → h1.1[N + q]? = sh q) ∧ (∀ a k, a < N → a ≠ x → h1.2.1 a k = h.2.1 a k ∧ h1.2.2.1 a k = h.2.2.1 a k) ∧ (∀ k b, F k = some b → h1.2.2.1 x k = some b) ∧ (∀ k z, I k = some z → h1.2.1 x k = z) ∧ (∀ q k b, q < len → G q k = some b → h1.2.2.1 (N + q) k = some b) ∧ ∀ q k z, q < len → Z q k = some z → h1.2.1 (N + q) k = z
theorem Ds.z {h : Hp} {N x : Nat} {sh : Nat → Option (Nat × Nat)} {G : Nat → Nat → Option Nat} {Z : Nat → Nat → Option Int} (hN : h.1.length = N) (hx : x < N) : Ds h h N x 0 sh (fun _ => none) (fun k => some (h.2.1 x k)) G Z :=
  ⟨hN, hx, hN, fun _ _ => rfl, fun q hq => absurd hq (Nat.not_lt_zero _), fun _ _ _ _ => ⟨rfl, rfl⟩, fun k b e => (by cases e), fun k z e => (by injection e), fun q k b hq => absurd hq (Nat.not_lt_zero _), fun q k z hq => absurd hq (Nat.not_lt_zero _)⟩
theorem Ds.w {h h1 : Hp} {N x len : Nat} {sh sh2 : Nat → Option (Nat × Nat)} {F F2 : Nat → Option Nat} {I I2 : Nat → Option Int} {G G2 : Nat → Nat → Option Nat} {Z Z2 : Nat → Nat → Option Int} (D : Ds h h1 N x len sh F I G Z) (h1_ : ∀ q, q < len → sh q = sh2 q) (h2 : ∀ k b, F2 k = some b → F k = some b) (h3 : ∀ k z, I2 k = some z → I k = some z) (h4 : ∀ q k b, q < len → G2 q k = some b → G q k = some b) (h5 : ∀ q k z, q < len → Z2 q k = some z → Z q k = some z) : Ds h h1 N x len sh2 F2 I2 G2 Z2 := by
  obtain ⟨d1, d2, d3, d4, d5, d6, d7, d8, d9, d10⟩ := D
  exact ⟨d1, d2, d3, d4, fun q hq => by rw [d5 q hq, h1_ q hq], d6, fun k b e => d7 k b (h2 k b e), fun k z e => d8 k z (h3 k z e), fun q k b hq e => d9 q k b hq (h4 q k b hq e), fun q k z hq e => d10 q k z hq (h5 q k z hq e)⟩
theorem putR_ne2 {h : Hp} {a k b q : Nat} {v : Option Nat} (e : b ≠ a ∨ q ≠ k) : (putR h a k v).2.2.1 b q = h.2.2.1 b q := if_neg (fun z => by omega)
theorem putR_eq2 {h : Hp} {a k : Nat} {v : Option Nat} : (putR h a k v).2.2.1 a k = v := if_pos ⟨rfl, rfl⟩
theorem alc_len {h : Hp} {k n : Nat} : (alc h k n).1.length = h.1.length + 1 := by show (h.1 ++ [(k, n)]).length = _; rw [List.length_append]; rfl
theorem alc_s {h : Hp} {k n a : Nat} (e : a < h.1.length) : (alc h k n).1[a]? = h.1[a]? := List.getElem?_append_left e
theorem alc_s2 {h : Hp} {k n : Nat} : (alc h k n).1[h.1.length]? = some (k, n) := by show (h.1 ++ [(k, n)])[h.1.length]? = _; rw [List.getElem?_append_right (Nat.le_refl _), Nat.sub_self]; rfl
theorem alc_i {h : Hp} {k n a i : Nat} (e : a ≠ h.1.length) : (alc h k n).2.1 a i = h.2.1 a i := if_neg e
theorem alc_i2 {h : Hp} {k n i : Nat} : (alc h k n).2.1 h.1.length i = 0 := if_pos rfl
theorem alc_r {h : Hp} {k n a i : Nat} (e : a ≠ h.1.length) : (alc h k n).2.2.1 a i = h.2.2.1 a i := if_neg e
/-- a new row, put into a field of x -/
theorem Ds.arr {h h1 : Hp} {N x len kd n f M : Nat} {sh : Nat → Option (Nat × Nat)} {F : Nat → Option Nat} {I : Nat → Option Int} {G : Nat → Nat → Option Nat} {Z : Nat → Nat → Option Int} (D : Ds h h1 N x len sh F I G Z) (hM : M = N + len) : Ds h (putR (alc h1 kd n) x f (some M)) N x (len + 1) (fun q => if q = len then some (kd, n) else sh q) (fun k => if k = f then some M else F k) I (fun q k => if q = len then none else G q k) (fun q k => if q = len then some 0 else Z q k) := by
  obtain ⟨d1, d2, d3, d4, d5, d6, d7, d8, d9, d10⟩ := D
  refine ⟨d1, d2, ?_, fun a ha => ?_, fun q hq => ?_, fun a k ha hx => ⟨?_, ?_⟩, fun k b e => ?_, fun k z e => ?_, fun q k b hq e => ?_, fun q k z hq e => ?_⟩
  · show (alc h1 kd n).1.length = _
    rw [alc_len, d3]; omega
  · show (alc h1 kd n).1[a]? = _
    rw [alc_s (by omega)]; exact d4 a ha
  · show (alc h1 kd n).1[N + q]? = if q = len then some (kd, n) else sh q
    by_cases c : q = len
    · rw [if_pos c, c, ← d3]; exact alc_s2
    · rw [if_neg c, alc_s (by omega)]; exact d5 q (by omega)
  · show (alc h1 kd n).2.1 a k = _
    rw [alc_i (by omega)]; exact (d6 a k ha hx).1
  · rw [putR_ne2 (by omega), alc_r (by omega)]; exact (d6 a k ha hx).2
  · dsimp only at e
    by_cases c : k = f
    · rw [if_pos c] at e
      rw [c, putR_eq2]; exact e
    · rw [if_neg c] at e
      rw [putR_ne2 (by omega), alc_r (by omega)]; exact d7 k b e
  · show (alc h1 kd n).2.1 x k = _
    rw [alc_i (by omega)]; exact d8 k z e
  · dsimp only at e
    by_cases c : q = len
    · rw [if_pos c] at e; cases e
    · rw [if_neg c] at e
      rw [putR_ne2 (by omega), alc_r (by omega)]; exact d9 q k b (by omega) e
  · dsimp only at e
    show (alc h1 kd n).2.1 (N + q) k = _
    by_cases c : q = len
    · rw [if_pos c] at e
      injection e with e
      rw [c, ← d3, alc_i2]; exact e
    · rw [if_neg c] at e
      rw [alc_i (by omega)]; exact d10 q k z (by omega) e
/-- a new object with what its constructor made, put into a field of x -/
theorem Ds.obj {h h1 h2 : Hp} {N x len ci nf f M len2 : Nat} {sh sh2 : Nat → Option (Nat × Nat)} {F F2 : Nat → Option Nat} {I I2 : Nat → Option Int} {G G2 : Nat → Nat → Option Nat} {Z Z2 : Nat → Nat → Option Int} (D : Ds h h1 N x len sh F I G Z) (hM : M = N + len) (E : Ds (alc h1 ci nf) h2 (M + 1) M len2 sh2 F2 I2 G2 Z2) : Ds h (putR h2 x f (some M)) N x (len + 1 + len2) (fun q => if q < len then sh q else if q = len then some (ci, nf) else sh2 (q - len - 1)) (fun k => if k = f then some M else F k) I (fun q k => if q < len then G q k else if q = len then F2 k else G2 (q - len - 1) k) (fun q k => if q < len then Z q k else if q = len then I2 k else Z2 (q - len - 1) k) := by
  obtain ⟨d1, d2, d3, d4, d5, d6, d7, d8, d9, d10⟩ := D
  obtain ⟨e1, e2, e3, e4, e5, e6, e7, e8, e9, e10⟩ := E
  have hl : h1.1.length = M := by rw [d3, hM]
  refine ⟨d1, d2, ?_, fun a ha => ?_, fun q hq => ?_, fun a k ha hx => ⟨?_, ?_⟩, fun k b e => ?_, fun k z e => ?_, fun q k b hq e => ?_, fun q k z hq e => ?_⟩
  · show h2.1.length = _
    rw [e3]; omega
  · show h2.1[a]? = _
    rw [e4 a (by omega), alc_s (by omega)]; exact d4 a ha
  · show h2.1[N + q]? = if q < len then sh q else if q = len then some (ci, nf) else sh2 (q - len - 1)
    by_cases c : q < len
    · rw [if_pos c, e4 _ (by omega), alc_s (by omega)]; exact d5 q c
    · rw [if_neg c]
      by_cases c2 : q = len
      · rw [if_pos c2, e4 _ (by omega), c2, ← hM, ← hl]; exact alc_s2
      · rw [if_neg c2, show N + q = M + 1 + (q - len - 1) by omega]; exact e5 _ (by omega)
  · show h2.2.1 a k = _
    rw [(e6 a k (by omega) (by omega)).1, alc_i (by omega)]; exact (d6 a k ha hx).1
  · rw [putR_ne2 (by omega), (e6 a k (by omega) (by omega)).2, alc_r (by omega)]; exact (d6 a k ha hx).2
  · dsimp only at e
    by_cases c : k = f
    · rw [if_pos c] at e
      rw [c, putR_eq2]; exact e
    · rw [if_neg c] at e
      rw [putR_ne2 (by omega), (e6 x k (by omega) (by omega)).2, alc_r (by omega)]; exact d7 k b e
  · show h2.2.1 x k = _
    rw [(e6 x k (by omega) (by omega)).1, alc_i (by omega)]; exact d8 k z e
  · dsimp only at e
    rw [putR_ne2 (by omega)]
    by_cases c : q < len
    · rw [if_pos c] at e
      rw [(e6 _ k (by omega) (by omega)).2, alc_r (by omega)]; exact d9 q k b c e
    · rw [if_neg c] at e
      by_cases c2 : q = len
      · rw [if_pos c2] at e
        rw [c2, ← hM]; exact e7 k b e
      · rw [if_neg c2] at e
        rw [show N + q = M + 1 + (q - len - 1) by omega]; exact e9 _ k b (by omega) e
  · dsimp only at e
    show h2.2.1 (N + q) k = _
    by_cases c : q < len
    · rw [if_pos c] at e
      rw [(e6 _ k (by omega) (by omega)).1, alc_i (by omega)]; exact d10 q k z c e
    · rw [if_neg c] at e
      by_cases c2 : q = len
      · rw [if_pos c2] at e
        rw [c2, ← hM]; exact e8 k z e
      · rw [if_neg c2] at e
        rw [show N + q = M + 1 + (q - len - 1) by omega]; exact e10 _ k z (by omega) e
/-- an int of x -/
theorem Ds.int {h h1 : Hp} {N x len f : Nat} {v : Int} {sh : Nat → Option (Nat × Nat)} {F : Nat → Option Nat} {I : Nat → Option Int} {G : Nat → Nat → Option Nat} {Z : Nat → Nat → Option Int} (D : Ds h h1 N x len sh F I G Z) : Ds h (putI h1 x f v) N x len sh F (fun k => if k = f then some v else I k) G Z := by
  obtain ⟨d1, d2, d3, d4, d5, d6, d7, d8, d9, d10⟩ := D
  refine ⟨d1, d2, d3, d4, d5, fun a k ha hx => ⟨?_, (d6 a k ha hx).2⟩, d7, fun k z e => ?_, d9, fun q k z hq e => ?_⟩
  · rw [putI_ne (by omega)]; exact (d6 a k ha hx).1
  · dsimp only at e
    by_cases c : k = f
    · rw [if_pos c] at e
      injection e with e
      rw [c, putI_eq]; exact e
    · rw [if_neg c] at e
      rw [putI_ne (by omega)]; exact d8 k z e
  · rw [putI_ne (by omega)]; exact d10 q k z hq e
/-- a reference of x -/
theorem Ds.ref {h h1 : Hp} {N x len f : Nat} {v : Nat} {sh : Nat → Option (Nat × Nat)} {F : Nat → Option Nat} {I : Nat → Option Int} {G : Nat → Nat → Option Nat} {Z : Nat → Nat → Option Int} (D : Ds h h1 N x len sh F I G Z) : Ds h (putR h1 x f (some v)) N x len sh (fun k => if k = f then some v else F k) I G Z := by
  obtain ⟨d1, d2, d3, d4, d5, d6, d7, d8, d9, d10⟩ := D
  refine ⟨d1, d2, d3, d4, d5, fun a k ha hx => ⟨(d6 a k ha hx).1, ?_⟩, fun k b e => ?_, d8, fun q k b hq e => ?_, d10⟩
  · rw [putR_ne2 (by omega)]; exact (d6 a k ha hx).2
  · dsimp only at e
    by_cases c : k = f
    · rw [if_pos c] at e
      rw [c, putR_eq2]; exact e
    · rw [if_neg c] at e
      rw [putR_ne2 (by omega)]; exact d7 k b e
  · rw [putR_ne2 (by omega)]; exact d9 q k b hq e
/-- a new object with what its constructor made, put into place i of the row at N + p -/
theorem Ds.put {h h1 h2 : Hp} {N x len ci nf i p M len2 : Nat} {sh sh2 : Nat → Option (Nat × Nat)} {F F2 : Nat → Option Nat} {I I2 : Nat → Option Int} {G G2 : Nat → Nat → Option Nat} {Z Z2 : Nat → Nat → Option Int} (D : Ds h h1 N x len sh F I G Z) (hp : p < len) (hM : M = N + len) (E : Ds (alc h1 ci nf) h2 (M + 1) M len2 sh2 F2 I2 G2 Z2) : Ds h (putR h2 (N + p) i (some M)) N x (len + 1 + len2) (fun q => if q < len then sh q else if q = len then some (ci, nf) else sh2 (q - len - 1)) F I (fun q k => if q = p ∧ k = i then some M else if q < len then G q k else if q = len then F2 k else G2 (q - len - 1) k) (fun q k => if q < len then Z q k else if q = len then I2 k else Z2 (q - len - 1) k) := by
  obtain ⟨d1, d2, d3, d4, d5, d6, d7, d8, d9, d10⟩ := D
  obtain ⟨e1, e2, e3, e4, e5, e6, e7, e8, e9, e10⟩ := E
  have hl : h1.1.length = M := by rw [d3, hM]
  refine ⟨d1, d2, ?_, fun a ha => ?_, fun q hq => ?_, fun a k ha hx => ⟨?_, ?_⟩, fun k b e => ?_, fun k z e => ?_, fun q k b hq e => ?_, fun q k z hq e => ?_⟩
  · show h2.1.length = _
    rw [e3]; omega
  · show h2.1[a]? = _
    rw [e4 a (by omega), alc_s (by omega)]; exact d4 a ha
  · show h2.1[N + q]? = if q < len then sh q else if q = len then some (ci, nf) else sh2 (q - len - 1)
    by_cases c : q < len
    · rw [if_pos c, e4 _ (by omega), alc_s (by omega)]; exact d5 q c
    · rw [if_neg c]
      by_cases c2 : q = len
      · rw [if_pos c2, e4 _ (by omega), c2, ← hM, ← hl]; exact alc_s2
      · rw [if_neg c2, show N + q = M + 1 + (q - len - 1) by omega]; exact e5 _ (by omega)
  · show h2.2.1 a k = _
    rw [(e6 a k (by omega) (by omega)).1, alc_i (by omega)]; exact (d6 a k ha hx).1
  · rw [putR_ne2 (by omega), (e6 a k (by omega) (by omega)).2, alc_r (by omega)]; exact (d6 a k ha hx).2
  · rw [putR_ne2 (by omega), (e6 x k (by omega) (by omega)).2, alc_r (by omega)]; exact d7 k b e
  · show h2.2.1 x k = _
    rw [(e6 x k (by omega) (by omega)).1, alc_i (by omega)]; exact d8 k z e
  · dsimp only at e
    by_cases c0 : q = p ∧ k = i
    · rw [if_pos c0] at e
      rw [c0.1, c0.2, putR_eq2]; exact e
    · rw [if_neg c0] at e
      rw [putR_ne2 (by omega)]
      by_cases c : q < len
      · rw [if_pos c] at e
        rw [(e6 _ k (by omega) (by omega)).2, alc_r (by omega)]; exact d9 q k b c e
      · rw [if_neg c] at e
        by_cases c2 : q = len
        · rw [if_pos c2] at e
          rw [c2, ← hM]; exact e7 k b e
        · rw [if_neg c2] at e
          rw [show N + q = M + 1 + (q - len - 1) by omega]; exact e9 _ k b (by omega) e
  · dsimp only at e
    show h2.2.1 (N + q) k = _
    by_cases c : q < len
    · rw [if_pos c] at e
      rw [(e6 _ k (by omega) (by omega)).1, alc_i (by omega)]; exact d10 q k z c e
    · rw [if_neg c] at e
      by_cases c2 : q = len
      · rw [if_pos c2] at e
        rw [c2, ← hM]; exact e8 k z e
      · rw [if_neg c2] at e
        rw [show N + q = M + 1 + (q - len - 1) by omega]; exact e10 _ k z (by omega) e
theorem Ds.len {h h1 : Hp} {N x len : Nat} {sh : Nat → Option (Nat × Nat)} {F : Nat → Option Nat} {I : Nat → Option Int} {G : Nat → Nat → Option Nat} {Z : Nat → Nat → Option Int} (D : Ds h h1 N x len sh F I G Z) : h1.1.length = N + len := D.2.2.1
theorem Ds.shx {h h1 : Hp} {N x len : Nat} {sh : Nat → Option (Nat × Nat)} {F : Nat → Option Nat} {I : Nat → Option Int} {G : Nat → Nat → Option Nat} {Z : Nat → Nat → Option Int} (D : Ds h h1 N x len sh F I G Z) : h1.1[x]? = h.1[x]? := D.2.2.2.1 x D.2.1
