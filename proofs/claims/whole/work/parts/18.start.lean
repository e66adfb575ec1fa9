/-! the law's start: the abstract heap that holds the script and the constants -/
theorem arr_known {args : Array Value} {s : State} {t : FieldType} (h : (Cond.arrayClass t).before args s = true) (ho : ∀ C, t ≠ .object C) : ∃ c : ClassId, ArrOfT s c t ∧ va_RA s c t := by
  obtain ⟨c, k, comp, h1, h2, h3⟩ := Cond.arrayClass_spec h
  refine ⟨c, fun N z => ⟨(fun q hq => by cases hq), k, h2, comp, h3⟩, ?_⟩
  cases t <;> first | exact h1 | exact absurd rfl (ho _)
theorem arrO_known {s : State} {C : String} (h : va_AO C s) : ∃ c : ClassId, ArrOfT s c (.object C) ∧ va_RA s c (.object C) := by
  obtain ⟨comp, c, k, h1, h2, h3, h4, h5⟩ := Cond.arrayOver_spec h
  exact ⟨c, fun N z => ⟨(fun q hq => by cases hq), k, h3, comp, h4⟩, ⟨k, comp, h3, h4, h1, h5⟩⟩
theorem arrA_known {s : State} {t : FieldType} (h : va_AOa t s) : ∃ c : ClassId, ArrOfT s c (.array t) ∧ va_RA s c (.array t) := by
  obtain ⟨comp, c, k, h1, h2, h3, h4, h5⟩ := aoa_spec h
  exact ⟨c, fun N z => ⟨(fun q hq => by cases hq), k, h3, comp, h4⟩, h5⟩
def c0sh (L : Nat) : List (Nat × Nat) := [(100, L), (100, 10), (100, 4), (200, 2), (200, 2), (200, 2), (200, 2), (200, 2), (200, 2), (200, 2), (200, 2), (200, 2), (200, 2), (200, 2), (200, 2), (103, 4), (103, 2), (103, 5), (103, 7), (103, 4), (103, 5), (103, 8), (103, 3), (103, 4), (103, 2), (103, 7), (103, 5), (250, 0)]
def c0i (xs : Nat → Int32) : Nat → Nat → Int := fun a i => if a = 0 then (xs i).toInt else if a = 1 then ([0, 1, 2, 3, 2, 1, 2, 3, 4, 2] : List Int).getD i 0 else if a = 2 then ([3, 2, 1, 1] : List Int).getD i 0 else if 15 ≤ a ∧ a < 27 then (nStB.getD (a - 15) []).getD i 0 else 0
def c0r : Nat → Nat → Option Nat := fun a i => if 3 ≤ a ∧ a < 15 ∧ i = 0 then some (a + 12) else none
def hp0 (L : Nat) (xs : Nat → Int32) : Hp := (c0sh L, c0i xs, c0r, fun _ _ => 0)
theorem c0_cases {L a k n : Nat} (h : (c0sh L)[a]? = some (k, n)) : (a = 0 ∧ k = 100 ∧ n = L) ∨ (a = 1 ∧ k = 100 ∧ n = 10) ∨ (a = 2 ∧ k = 100 ∧ n = 4) ∨ (3 ≤ a ∧ a < 15 ∧ k = 200 ∧ n = 2) ∨ (15 ≤ a ∧ a < 27 ∧ k = 103 ∧ n = ([4, 2, 5, 7, 4, 5, 8, 3, 4, 2, 7, 5] : List Nat).getD (a - 15) 0) ∨ (a = 27 ∧ k = 250 ∧ n = 0) := by
  have ha : a < 28 := (List.getElem?_eq_some_iff.mp h).1
  have q2 : a = 0 ∨ a = 1 ∨ a = 2 ∨ a = 3 ∨ a = 4 ∨ a = 5 ∨ a = 6 ∨ a = 7 ∨ a = 8 ∨ a = 9 ∨ a = 10 ∨ a = 11 ∨ a = 12 ∨ a = 13 ∨ a = 14 ∨ a = 15 ∨ a = 16 ∨ a = 17 ∨ a = 18 ∨ a = 19 ∨ a = 20 ∨ a = 21 ∨ a = 22 ∨ a = 23 ∨ a = 24 ∨ a = 25 ∨ a = 26 ∨ a = 27 := by omega
  rcases q2 with rfl | rfl | rfl | rfl | rfl | rfl | rfl | rfl | rfl | rfl | rfl | rfl | rfl | rfl | rfl | rfl | rfl | rfl | rfl | rfl | rfl | rfl | rfl | rfl | rfl | rfl | rfl | rfl <;> cases h <;> simp
theorem nStB_ok : (nStB.all fun l => l.all fun z => decide (0 ≤ z ∧ z ≤ 127)) = true := by decide
theorem getD_all {l : List Int} {i : Nat} (h : (l.all fun z => decide (0 ≤ z ∧ z ≤ 127)) = true) : inI (l.getD i 0) := by
  rw [List.getD_eq_getElem?_getD]
  cases hx : l[i]? with
  | none => exact inI_0
  | some z =>
    have := List.all_eq_true.mp h z (List.mem_of_getElem? hx)
    simp only [decide_eq_true_eq] at this
    show inI z
    unfold inI
    omega
theorem hp0_ok {L : Nat} {xs : Nat → Int32} (hL : L < 2147483648) : okH (hp0 L xs) := by
  refine ⟨Nat.le_refl 28, fun a i => ?_, fun a i b hb => ?_, fun a k n hs => ?_, rfl, fun a i n hs => ?_⟩
  · show inI (c0i xs a i)
    unfold c0i
    split
    · exact inI_toInt _
    · split
      · exact getD_all (by decide)
      · split
        · exact getD_all (by decide)
        · split
          · refine getD_all ?_
            rw [List.getD_eq_getElem?_getD]
            cases hx : nStB[a - 15]? with
            | none => rfl
            | some l => exact List.all_eq_true.mp nStB_ok l (List.mem_of_getElem? hx)
          · exact inI_0
  · have hb : c0r a i = some b := hb
    unfold c0r at hb
    split at hb
    · rename_i h9
      cases hb
      show a + 12 < 28 ∧ a + 12 ≠ 27
      omega
    · cases hb
  · have hs : (c0sh L)[a]? = some (k, n) := hs
    have ha : a < 28 := (List.getElem?_eq_some_iff.mp hs).1
    refine ⟨fun q => by omega, fun _ => ?_⟩
    rcases c0_cases hs with ⟨-, rfl, rfl⟩ | ⟨-, rfl, rfl⟩ | ⟨-, rfl, rfl⟩ | ⟨-, -, rfl, rfl⟩ | ⟨h1, h2, rfl, rfl⟩ | ⟨-, rfl, rfl⟩
    · exact ⟨by omega, hL⟩
    · exact ⟨by omega, by omega⟩
    · exact ⟨by omega, by omega⟩
    · exact ⟨by omega, by omega⟩
    · refine ⟨by omega, ?_⟩
      rw [List.getD_eq_getElem?_getD]
      cases hx : ([4, 2, 5, 7, 4, 5, 8, 3, 4, 2, 7, 5] : List Nat)[a - 15]? with
      | none => decide
      | some z =>
        have h9 : (([4, 2, 5, 7, 4, 5, 8, 3, 4, 2, 7, 5] : List Nat).all fun z => decide (z < 2147483648)) = true := by decide
        simpa using List.all_eq_true.mp h9 z (List.mem_of_getElem? hx)
    · exact ⟨by omega, by omega⟩
  · have hs : (c0sh L)[a]? = some (101, n) := hs
    rcases c0_cases hs with ⟨-, h, -⟩ | ⟨-, h, -⟩ | ⟨-, h, -⟩ | ⟨-, -, h, -⟩ | ⟨-, -, h, -⟩ | ⟨-, h, -⟩ <;> cases h
def sE : List Nat := [59, 76, 82, 87, 89, 95, 97, 99, 118, 123, 125, 129]
def sT (i : Nat) : Term := .string "NumberedText$Reader" (sE.getD i 0)
def sLn : List Nat := [4, 2, 5, 7, 4, 5, 8, 3, 4, 2, 7, 5]
def sB : List (List Int32) := nStB.map (fun l => l.map Int32.ofInt)
set_option maxRecDepth 100000 in
theorem sx_1 : ∀ i, i < 12 → Cond.exactly (sT i) "java/lang/String" ∈ flatC (Jvm.Cond.and given_1 narrow_1) := by decide +kernel
set_option maxRecDepth 100000 in
theorem sx_2 : ∀ i, i < 12 → Cond.eq (.field (sT i) "java/lang/String" "coder" "B") (.int 0) ∈ flatC (Jvm.Cond.and given_1 narrow_1) := by decide +kernel
set_option maxRecDepth 100000 in
theorem sx_3 : ∀ i, i < 12 → Cond.arrayOf (.field (sT i) "java/lang/String" "value" "[B") .byte ∈ flatC (Jvm.Cond.and given_1 narrow_1) := by decide +kernel
set_option maxRecDepth 100000 in
theorem sx_4 : ∀ i, i < 12 → Cond.eq (.length (.field (sT i) "java/lang/String" "value" "[B")) (.int (Int32.ofNat (sLn.getD i 0))) ∈ flatC (Jvm.Cond.and given_1 narrow_1) := by decide +kernel
set_option maxRecDepth 100000 in
theorem sx_5 : ∀ i, i < 12 → ∀ j, j < sLn.getD i 0 → Cond.eq (.elem (.field (sT i) "java/lang/String" "value" "[B") (.int (Int32.ofNat j))) (.int ((sB.getD i []).getD j 0)) ∈ flatC (Jvm.Cond.and given_1 narrow_1) := by decide +kernel
set_option maxRecDepth 100000 in
theorem sx_6 : ∀ i, i < 12 → ∀ j, j < 12 → i ≠ j → (Cond.not (Cond.eq (sT i) (sT j)) ∈ flatC (Jvm.Cond.and given_1 narrow_1) ∨ Cond.not (Cond.eq (sT j) (sT i)) ∈ flatC (Jvm.Cond.and given_1 narrow_1)) := by decide +kernel
set_option maxRecDepth 100000 in
theorem sx_7 : Cond.arrayOf (.static "NumberedText$Saying" "ROMAN_LETTERS" "[I") .int ∈ flatC (Jvm.Cond.and given_1 narrow_1) ∧ Cond.eq (.length (.static "NumberedText$Saying" "ROMAN_LETTERS" "[I")) (.int (Int32.ofNat 10)) ∈ flatC (Jvm.Cond.and given_1 narrow_1) ∧ ∀ j, j < 10 → Cond.eq (.elem (.static "NumberedText$Saying" "ROMAN_LETTERS" "[I") (.int (Int32.ofNat j))) (.int (Int32.ofInt (([0, 1, 2, 3, 2, 1, 2, 3, 4, 2] : List Int).getD j 0))) ∈ flatC (Jvm.Cond.and given_1 narrow_1) := by decide +kernel
set_option maxRecDepth 100000 in
theorem sx_8 : Cond.arrayOf (.static "NumberedText$Layout" "HEADING_LINES" "[I") .int ∈ flatC (Jvm.Cond.and given_1 narrow_1) ∧ Cond.eq (.length (.static "NumberedText$Layout" "HEADING_LINES" "[I")) (.int (Int32.ofNat 4)) ∈ flatC (Jvm.Cond.and given_1 narrow_1) ∧ ∀ j, j < 4 → Cond.eq (.elem (.static "NumberedText$Layout" "HEADING_LINES" "[I") (.int (Int32.ofNat j))) (.int (Int32.ofInt (([3, 2, 1, 1] : List Int).getD j 0))) ∈ flatC (Jvm.Cond.and given_1 narrow_1) := by decide +kernel
set_option maxRecDepth 100000 in
theorem sx_9 : Cond.eq (.static "java/lang/String" "COMPACT_STRINGS" "Z") (.int 1) ∈ flatC (Jvm.Cond.and given_1 narrow_1) ∧ Cond.isRef (.static "jdk/internal/util/Preconditions" "SIOOBE_FORMATTER" "Ljava/util/function/BiFunction;") ∈ flatC (Jvm.Cond.and given_1 narrow_1) := by decide +kernel
