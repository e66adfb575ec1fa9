/-! what the abstract heap says of the machine's -/
def cvr (ad : Nat → Nat) (fo : Option Nat) (r : Option Nat) : Value := match r with
  | none => .null
  | some a => if a = 27 then va_rf fo else .ref (ad a)
def cv (ad : Nat → Nat) (fo : Option Nat) (v : Vl) : Value := match v with
  | .inl z => .int (Int32.ofInt z)
  | .inr (.inl x) => .long x
  | .inr (.inr r) => cvr ad fo r
def cvL (ad : Nat → Nat) (fo : Option Nat) (ls : Lc) : List (Nat × Value) := (List.range ls.length).filterMap (fun i => match ls[i]? with
  | some (some v) => some (i, cv ad fo v)
  | _ => none)
def okV (n : Nat) (v : Vl) : Prop := match v with
  | .inl z => inI z
  | .inr (.inl _) => True
  | .inr (.inr r) => ∀ a, r = some a → a < n
def okSt (n : Nat) (st : List Vl) : Prop := ∀ v ∈ st, okV n v
def okLs (n : Nat) (ls : Lc) : Prop := ∀ v, some v ∈ ls → okV n v
def okH (h : Hp) : Prop := 28 ≤ h.1.length ∧ (∀ a i, inI (h.2.1 a i)) ∧ (∀ a i b, h.2.2.1 a i = some b → b < h.1.length ∧ b ≠ 27) ∧ (∀ a k n, h.1[a]? = some (k, n) → (28 ≤ a → (k < 11 ∨ k = 100 ∨ k = 101 ∨ k = 102 ∨ k = 110 ∨ k = 111 ∨ k = 112) ∧ n < 2147483648) ∧ (a < 28 → (k = 100 ∨ k = 103 ∨ k = 200 ∨ k = 250) ∧ n < 2147483648)) ∧ (h.1[27]? = some (250, 0)) ∧ (∀ a i n, h.1[a]? = some (101, n) → h.2.1 a i = 0 ∨ h.2.1 a i = 1)
def nfv (ad : Nat → Nat) (h : Hp) (a i t : Nat) : Value := if t = 3 then va_rf ((h.2.2.1 a i).map ad) else if t = 2 then .long (h.2.2.2 a i) else .int (Int32.ofInt (h.2.1 a i))
def nfs (ad : Nat → Nat) (h : Hp) (a : Nat) (ts : List Nat) : List Value := (List.range ts.length).map (fun i => nfv ad h a i (ts.getD i 0))
def enc (E : Nat → ClassId) (ad : Nat → Nat) (h : Hp) (a : Nat) : va_E := match h.1[a]? with
  | none => .inr (0, [])
  | some (k, n) => match nFT[k]? with
    | some ts => .inr (k, nfs ad h a ts)
    | none => if k = 102 then .inl (E 102, n, .inr (.inl (h.2.2.2 a))) else if k = 100 ∨ k = 101 then .inl (E k, n, .inl (fun i => Int32.ofInt (h.2.1 a i))) else .inl (E k, n, .inr (.inr (.inr (.inr (fun i => (h.2.2.1 a i).map ad)))))
def nWs (E : Nat → ClassId) (ad : Nat → Nat) (h : Hp) : va_W := (List.range (h.1.length - 28)).map (fun k => (ad (28 + k), enc E ad h (28 + k)))
def nTy (E : Nat → ClassId) : List (ClassId × FieldType) := [(E 100, .int), (E 101, .boolean), (E 102, .long), (E 110, .object "NumberedText$Item"), (E 111, .object "NumberedText$Text"), (E 112, .array .int)]
def nCs (fo : Option Nat) (ad : Nat → Nat) (h : Hp) (A : Nat → Prop) (U : State) (H : Heap) : Prop :=
  (∀ a n, a < 28 → h.1[a]? = some (100, n) → va_T .int (ad a) n (fun i => .int (Int32.ofInt (h.2.1 a i))) A U H) ∧
  (∀ a n, a < 28 → h.1[a]? = some (103, n) → va_T .byte (ad a) n (fun i => .int (Int32.ofInt (h.2.1 a i))) A U H) ∧
  (∀ a n, a < 28 → h.1[a]? = some (200, n) → va_O "java/lang/String" (ad a) A U H ∧ va_OF "java/lang/String" "coder" "B" (.int (Int32.ofInt (h.2.1 a 1))) (ad a) A U H ∧ va_OF "java/lang/String" "value" "[B" (va_rf ((h.2.2.1 a 0).map ad)) (ad a) A U H) ∧
  va_Z "NumberedText$Saying" "ROMAN_LETTERS" "[I" (.ref (ad 1)) A U H ∧ va_Z "NumberedText$Layout" "HEADING_LINES" "[I" (.ref (ad 2)) A U H ∧ va_Z "java/lang/String" "COMPACT_STRINGS" "Z" (.int 1) A U H ∧ va_Z "jdk/internal/util/Preconditions" "SIOOBE_FORMATTER" "Ljava/util/function/BiFunction;" (va_rf fo) A U H
def nNst : List Cond := lw_tbl.filter (fun w => match w with
  | .methodLinkNest _ _ _ _ => true
  | _ => false)
def va_AOa (t : FieldType) (U : State) : Prop := (Cond.arrayOver (.array t)).before #[] U = true
def nSx : List (Nat × String × Nat) := [(59, "page", 0), (76, "by", 1), (82, "level", 2), (87, "figures", 3), (89, "anew", 4), (95, "notes", 5), (97, "chapters", 6), (99, "new", 7), (118, "long", 8), (123, "on", 9), (125, "letters", 10), (129, "roman", 11)]
def nWd (ad : Nat → Nat) (U : State) : Prop := (∀ w ∈ nNst, va_Nw w U) ∧ va_AO "NumberedText$Item" U ∧ va_AO "NumberedText$Text" U ∧ va_AOa .int U ∧ ∀ q ∈ nSx, vk_R "NumberedText$Reader" q.1 q.2.1 (ad (3 + q.2.2)) U
def nW0 : List Cond := lw_tbl.filter goodWord
/-- the machine's heap is the abstract one's, and what was there before is kept -/
def nW (fo : Option Nat) (E : Nat → ClassId) (D : va_G) (ad : Nat → Nat) (h : Hp) (A : Nat → Prop) (s : State) (H : Heap) (locs : List Loc) : Prop :=
  va_K D nCl (nTy E) s ∧ va_P D nCl (nWs E ad h) H ∧ va_D A (nWs E ad h) ∧ va_S A s.heap H locs ∧ (∀ q, s.heap.size ≤ q → A q) ∧ nCs fo ad h A s s.heap ∧ nWd ad s ∧ okH h
def Inv (fo : Option Nat) (E : Nat → ClassId) (D : va_G) (A : Nat → Prop) (n0 : Nat) (ad0 : Nat → Nat) (s : State) (nL : Nat) (ls : Lc) (st : List Vl) (h : Hp) (la : Array Slot) (H : Heap) (locs : List Loc) (ad : Nat → Nat) : Prop :=
  (lv_has la nL (cvL ad fo ls) ∧ ls.length = nL) ∧ okLs h.1.length ls ∧ okSt h.1.length st ∧ nW fo E D ad h A s H locs ∧ n0 ≤ h.1.length ∧ ∀ a, a < n0 → ad a = ad0 a
theorem Inv.st {fo : Option Nat} {E : Nat → ClassId} {D : va_G} {A : Nat → Prop} {n0 : Nat} {ad0 : Nat → Nat} {s : State} {nL : Nat} {ls : Lc} {st st' : List Vl} {h : Hp} {la : Array Slot} {H : Heap} {locs : List Loc} {ad : Nat → Nat} (hi : Inv fo E D A n0 ad0 s nL ls st h la H locs ad) (ho : okSt h.1.length st') : Inv fo E D A n0 ad0 s nL ls st' h la H locs ad := ⟨hi.1, hi.2.1, ho, hi.2.2.2⟩
theorem okSt.cons {n : Nat} {v : Vl} {st : List Vl} (h1 : okV n v) (h2 : okSt n st) : okSt n (v :: st) := by
  intro w hw
  rcases List.mem_cons.mp hw with rfl | hw
  · exact h1
  · exact h2 w hw
theorem okSt.tl {n : Nat} {v : Vl} {st : List Vl} (h : okSt n (v :: st)) : okSt n st := fun w hw => h w (List.mem_cons_of_mem _ hw)
theorem okSt.hd {n : Nat} {v : Vl} {st : List Vl} (h : okSt n (v :: st)) : okV n v := h v List.mem_cons_self
theorem inI_toInt (x : Int32) : inI x.toInt := by
  have h1 := Int32.toInt_lt x
  have h2 := Int32.le_toInt x
  unfold inI
  omega
theorem inI_of {z : Int} (h : inI z) : (Int32.ofInt z).toInt = z := Int32.toInt_ofInt_of_le (by unfold inI at h; omega) (by unfold inI at h; omega)
theorem okV_i (n : Nat) (x : Int32) : okV n (.inl x.toInt) := inI_toInt x
theorem okV_l (n : Nat) (x : Int64) : okV n (.inr (.inl x)) := trivial
theorem cv_i (ad : Nat → Nat) (fo : Option Nat) (x : Int32) : cv ad fo (.inl x.toInt) = .int x := by simp [cv]
theorem mem_cvL {ad : Nat → Nat} {fo : Option Nat} {ls : Lc} {q : Nat × Value} : q ∈ cvL ad fo ls ↔ ∃ v, ls[q.1]? = some (some v) ∧ q.2 = cv ad fo v := by
  unfold cvL
  rw [List.mem_filterMap]
  constructor
  · rintro ⟨i, hi, hq⟩
    cases hx : ls[i]? with
    | none => rw [hx] at hq; cases hq
    | some o =>
      cases o with
      | none => rw [hx] at hq; cases hq
      | some v => rw [hx] at hq; cases hq; exact ⟨v, hx, rfl⟩
  · rintro ⟨v, h1, h2⟩
    refine ⟨q.1, List.mem_range.mpr (List.getElem?_eq_some_iff.mp h1).1, ?_⟩
    rw [h1]
    show some (q.1, cv ad fo v) = some q
    rw [← h2]
theorem lc_get {ad : Nat → Nat} {fo : Option Nat} {ls : Lc} {la : Array Slot} {nL i : Nat} {v : Vl} (h : lv_has la nL (cvL ad fo ls)) (hv : ls[i]? = some (some v)) : la[i]? = some (.val (cv ad fo v)) := h.2.2 (i, cv ad fo v) (mem_cvL.mpr ⟨v, hv, rfl⟩)
theorem okLs.get {n : Nat} {ls : Lc} {i : Nat} {v : Vl} (h : okLs n ls) (hv : ls[i]? = some (some v)) : okV n v := h v (List.mem_of_getElem? hv)
theorem okLs.set {n : Nat} {ls : Lc} {i : Nat} {v : Vl} (h : okLs n ls) (hv : okV n v) : okLs n (ls.set i (some v)) := by
  intro w hw
  rcases List.mem_or_eq_of_mem_set hw with h1 | h1
  · exact h w h1
  · cases h1; exact hv
theorem okLs.set0 {n : Nat} {ls : Lc} {i : Nat} (h : okLs n ls) : okLs n (ls.set i none) := by
  intro w hw
  rcases List.mem_or_eq_of_mem_set hw with h1 | h1
  · exact h w h1
  · cases h1
theorem lv_has.mono {la : Array Slot} {nL : Nat} {l l' : List (Nat × Value)} (h : lv_has la nL l) (hs : ∀ q ∈ l', q ∈ l) : lv_has la nL l' := ⟨h.1, h.2.1, fun q hq => h.2.2 q (hs q hq)⟩
theorem cv_cat (ad : Nat → Nat) (fo : Option Nat) (v : Vl) : (cv ad fo v).category = vcat v := by
  rcases v with z | x | r
  · rfl
  · rfl
  · cases r with
    | none => rfl
    | some a =>
      show (if a = 27 then va_rf fo else Value.ref (ad a)).category = 1
      split
      · cases fo <;> rfl
      · rfl
theorem csum_cv (ad : Nat → Nat) (fo : Option Nat) (st : List Vl) : ((st.map (cv ad fo)).map fun v => v.category).sum = csum st := by
  unfold csum
  rw [List.map_map]
  congr 1
  exact List.map_congr_left fun v _ => cv_cat ad fo v
/-- the row of locals behind a store of one word -/
theorem lc_set {ad : Nat → Nat} {fo : Option Nat} {ls : Lc} {i : Nat} {v : Vl} (hn : noL ls i = true) (q : Nat × Value) (hq : q ∈ cvL ad fo (ls.set i (some v))) : q ∈ (i, cv ad fo v) :: (cvL ad fo ls).filter (fun q => !(q.1 == i) && !(q.1 + 1 == i && q.2.category == 2)) := by
  obtain ⟨w, h1, h2⟩ := mem_cvL.mp hq
  by_cases hi : q.1 = i
  · have hl : i < ls.length := by
      have := (List.getElem?_eq_some_iff.mp h1).1
      rw [List.length_set, hi] at this
      exact this
    rw [hi, List.getElem?_set_self hl] at h1
    cases h1
    have : q = (i, cv ad fo v) := by rw [← hi, ← h2]
    rw [this]
    exact List.mem_cons_self
  · rw [List.getElem?_set_ne (fun e => hi e.symm)] at h1
    refine List.mem_cons_of_mem _ (List.mem_filter.mpr ⟨mem_cvL.mpr ⟨w, h1, h2⟩, ?_⟩)
    have hc : q.1 + 1 = i → q.2.category ≠ 2 := by
      intro e hc
      rw [h2, cv_cat] at hc
      rw [← e] at hn
      unfold noL at hn
      rcases w with z | x | r
      · cases hc
      · simp only [h1] at hn; cases hn
      · cases hc
    simp only [Bool.and_eq_true, Bool.not_eq_true', beq_eq_false_iff_ne, ne_eq, Bool.and_eq_false_iff]
    refine ⟨hi, ?_⟩
    by_cases e : q.1 + 1 = i
    · right; exact hc e
    · left; exact e
theorem lc_set2 {ad : Nat → Nat} {fo : Option Nat} {ls : Lc} {i : Nat} {x : Int64} (hn : noL ls i = true) (q : Nat × Value) (hq : q ∈ cvL ad fo ((ls.set i (some (.inr (.inl x)))).set (i + 1) none)) : q ∈ (i, Value.long x) :: (cvL ad fo ls).filter (fun q => !(q.1 == i) && (!(q.1 == i + 1) && !(q.1 + 1 == i && q.2.category == 2))) := by
  obtain ⟨w, h1, h2⟩ := mem_cvL.mp hq
  by_cases hj : q.1 = i + 1
  · rw [hj] at h1
    have hl := (List.getElem?_eq_some_iff.mp h1).1
    rw [List.length_set] at hl
    rw [List.getElem?_set_self hl] at h1
    cases h1
  · rw [List.getElem?_set_ne (fun e => hj e.symm)] at h1
    have h3 := lc_set (ad := ad) (fo := fo) (v := .inr (.inl x)) hn q (mem_cvL.mpr ⟨w, h1, h2⟩)
    rcases List.mem_cons.mp h3 with h3 | h3
    · rw [h3]; exact List.mem_cons_self
    · refine List.mem_cons_of_mem _ ?_
      obtain ⟨h4, h5⟩ := List.mem_filter.mp h3
      refine List.mem_filter.mpr ⟨h4, ?_⟩
      simp only [Bool.and_eq_true, Bool.not_eq_true', beq_eq_false_iff_ne, ne_eq] at h5 ⊢
      exact ⟨h5.1, hj, h5.2⟩
