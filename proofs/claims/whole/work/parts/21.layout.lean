/-! where the objects lie once both are made, and what they stand for -/
def shT (o : Nat) : Option (Nat × Nat) := if o = 0 then some (1, 3) else if o = 1 then some (110, 60) else if o = 2 then some (2, 1) else if o = 3 then some (100, 13) else if (o - 4) % 4 = 0 then some (3, 8) else some (100, 20)
def shSet : List (Nat × Nat) := [(5, 13), (6, 7), (7, 9), (100, 1261), (100, 60), (100, 60), (100, 60), (100, 60), (100, 60), (100, 60), (100, 1200), (100, 1200), (100, 60), (100, 60), (4, 7), (100, 60), (100, 60), (100, 60), (100, 240), (100, 4), (100, 12), (100, 1200), (100, 1200), (100, 1200), (100, 1200)]
def shMod : List (Nat × Nat) := [(10, 57), (100, 4), (101, 4), (100, 240), (100, 240), (100, 240), (100, 240), (100, 240), (100, 4800), (100, 4800), (100, 4800), (100, 52), (100, 60), (100, 60), (100, 240), (100, 60), (100, 60), (100, 5), (100, 14400), (100, 1200), (100, 1200), (100, 1200), (100, 60), (100, 60), (100, 60), (100, 1300), (100, 12), (100, 60), (100, 61), (100, 61), (100, 1200), (100, 61), (101, 61), (100, 200), (100, 200), (100, 800), (100, 200), (100, 200), (100, 4000), (100, 4000), (100, 160), (100, 13)]
def shf (L a : Nat) : Option (Nat × Nat) :=
  if a < 28 then (c0sh L)[a]? else if a = 28 then some (0, 11) else if a < 273 then shT (a - 29) else if a = 273 then some (111, 3) else if a = 274 then some (101, 3)
  else if a < 281 then ([(4, 7), (100, 60), (100, 60), (100, 60), (100, 240), (100, 4)] : List (Nat × Nat))[a - 275]? else if a = 281 then some (112, 12) else if a < 294 then some (100, 1200)
  else if a < 319 then shSet[a - 294]? else if a < 344 then shSet[a - 319]? else if a < 353 then ([(8, 2), (102, 61), (102, 61), (9, 10), (2, 1), (100, 13), (100, 160), (101, 4), (101, 5)] : List (Nat × Nat))[a - 344]?
  else if a < 597 then shT (a - 353) else if a < 841 then shT (a - 597) else if a < 1085 then shT (a - 841) else shMod[a - 1085]?
def rfT (o k : Nat) : Option Nat := if o = 0 then (if k < 2 then some (1 + k) else none) else if o = 2 then (if k = 0 then some 1 else none) else if 4 ≤ o ∧ (o - 4) % 4 = 0 then (if k < 3 then some (1 + k) else none) else none
def rfSet (o k : Nat) : Option Nat := if o = 0 then ([some 1, some 14, some 20, none, some 21, some 22, some 23, some 24] : List (Option Nat)).getD k none
  else if o = 1 then ([some 1, some 7, some 8, some 9, some 10, some 11, some 12] : List (Option Nat)).getD k none
  else if o = 2 then (if k < 5 then some (1 + k) else none) else if o = 14 then (if k < 5 then some (1 + k) else none) else none
/-- the fields of the reference that are rows -/
def rfMod : List (Option Nat) := [some 1086, some 1087, some 1088, some 1089, some 1090, some 1091, some 1092, some 1093, some 1094, some 1095, some 1096, none, none, some 1097, some 1098, some 1099, some 1100, some 1101, some 1102, some 1103, some 1104, some 1105, some 1106, some 1107, some 1108, some 1109, some 1110, some 1111, none, none, none, none, some 1112, some 1113, some 1114, none, none, none, some 1115, some 1116, some 1117, some 1118, some 1119, some 1120, some 1121, some 1122, some 1123, some 1124, some 1125, none, none, none, some 1126, none, none, none, none]
/-- the references that never change -/
def rff (a k : Nat) : Option Nat :=
  if a = 28 then ([some 29, some 273, some 274, some 275, some 281, some 294, some 319, some 344, some 347] : List (Option Nat)).getD k none
  else if a < 29 then none else if a < 273 then (rfT (a - 29) k).map (a + ·) else if a = 273 then ([some 353, some 597, some 841] : List (Option Nat)).getD k none
  else if a = 275 then (if k < 5 then some (276 + k) else none) else if a = 281 then (if k < 12 then some (282 + k) else none)
  else if a < 294 then none else if a < 319 then (if a = 294 ∧ k = 3 then some 281 else (rfSet (a - 294) k).map (a + ·)) else if a < 344 then (if a = 319 ∧ k = 3 then some 281 else (rfSet (a - 319) k).map (a + ·))
  else if a = 344 then (if k < 2 then some (345 + k) else none) else if a = 347 then ([some 348, none, none, none, some 350, some 351, some 352] : List (Option Nat)).getD k none
  else if a = 348 then (if k = 0 then some 349 else none) else if a < 353 then none
  else if a < 597 then (rfT (a - 353) k).map (a + ·) else if a < 841 then (rfT (a - 597) k).map (a + ·) else if a < 1085 then (rfT (a - 841) k).map (a + ·)
  else if a = 1085 then rfMod.getD k none else none
def GG (L : Nat) (h : Hp) : Prop := (∀ a, h.1[a]? = shf L a) ∧ ∀ a k b, rff a k = some b → h.2.2.1 a k = some b
def isT (t : Nat) : Prop := t = 29 ∨ t = 353 ∨ t = 597 ∨ t = 841
/-- x is one of the 60 items of the Text at t -/
def isI (t x : Nat) : Prop := ∃ q, q < 60 ∧ x = t + 4 + 4 * q
theorem GG.tx {L : Nat} {h : Hp} {t : Nat} (g : GG L h) (ht : isT t) : h.1[t]? = some (1, 3) ∧ h.1[t + 1]? = some (110, 60) ∧ h.1[t + 2]? = some (2, 1) ∧ h.1[t + 3]? = some (100, 13) ∧ h.2.2.1 t 0 = some (t + 1) ∧ h.2.2.1 t 1 = some (t + 2) ∧ h.2.2.1 (t + 2) 0 = some (t + 3) := by
  rcases ht with rfl | rfl | rfl | rfl <;> refine ⟨?_, ?_, ?_, ?_, g.2 _ _ _ rfl, g.2 _ _ _ rfl, g.2 _ _ _ rfl⟩ <;> (rw [g.1]; rfl)
theorem shT_i {q : Nat} (o : Nat) (ho : o < 4) : shT (4 + 4 * q + o) = if o = 0 then some (3, 8) else some (100, 20) := by
  unfold shT
  rw [if_neg (by omega), if_neg (by omega), if_neg (by omega), if_neg (by omega)]
  by_cases h : o = 0
  · rw [if_pos (by omega), if_pos h]
  · rw [if_neg (by omega), if_neg h]
theorem shf_T {L t o : Nat} (ht : isT t) (ho : o < 244) : shf L (t + o) = shT o := by
  unfold shf
  rcases ht with rfl | rfl | rfl | rfl
  · rw [if_neg (by omega), if_neg (by omega), if_pos (by omega), show 29 + o - 29 = o by omega]
  · rw [if_neg (by omega), if_neg (by omega), if_neg (by omega), if_neg (by omega), if_neg (by omega), if_neg (by omega), if_neg (by omega), if_neg (by omega), if_neg (by omega), if_neg (by omega), if_neg (by omega), if_pos (by omega), show 353 + o - 353 = o by omega]
  · rw [if_neg (by omega), if_neg (by omega), if_neg (by omega), if_neg (by omega), if_neg (by omega), if_neg (by omega), if_neg (by omega), if_neg (by omega), if_neg (by omega), if_neg (by omega), if_neg (by omega), if_neg (by omega), if_pos (by omega), show 597 + o - 597 = o by omega]
  · rw [if_neg (by omega), if_neg (by omega), if_neg (by omega), if_neg (by omega), if_neg (by omega), if_neg (by omega), if_neg (by omega), if_neg (by omega), if_neg (by omega), if_neg (by omega), if_neg (by omega), if_neg (by omega), if_neg (by omega), if_pos (by omega), show 841 + o - 841 = o by omega]
theorem rff_T {t o k : Nat} (ht : isT t) (ho : o < 244) : rff (t + o) k = (rfT o k).map (t + o + ·) := by
  unfold rff
  rcases ht with rfl | rfl | rfl | rfl
  · rw [if_neg (by omega), if_neg (by omega), if_pos (by omega), show 29 + o - 29 = o by omega]
  · rw [if_neg (by omega), if_neg (by omega), if_neg (by omega), if_neg (by omega), if_neg (by omega), if_neg (by omega), if_neg (by omega), if_neg (by omega), if_neg (by omega), if_neg (by omega), if_neg (by omega), if_neg (by omega), if_neg (by omega), if_pos (by omega), show 353 + o - 353 = o by omega]
  · rw [if_neg (by omega), if_neg (by omega), if_neg (by omega), if_neg (by omega), if_neg (by omega), if_neg (by omega), if_neg (by omega), if_neg (by omega), if_neg (by omega), if_neg (by omega), if_neg (by omega), if_neg (by omega), if_neg (by omega), if_neg (by omega), if_pos (by omega), show 597 + o - 597 = o by omega]
  · rw [if_neg (by omega), if_neg (by omega), if_neg (by omega), if_neg (by omega), if_neg (by omega), if_neg (by omega), if_neg (by omega), if_neg (by omega), if_neg (by omega), if_neg (by omega), if_neg (by omega), if_neg (by omega), if_neg (by omega), if_neg (by omega), if_neg (by omega), if_pos (by omega), show 841 + o - 841 = o by omega]
theorem GG.it {L : Nat} {h : Hp} {t x : Nat} (g : GG L h) (ht : isT t) (hx : isI t x) : h.1[x]? = some (3, 8) ∧ h.1[x + 1]? = some (100, 20) ∧ h.1[x + 2]? = some (100, 20) ∧ h.1[x + 3]? = some (100, 20) ∧ h.2.2.1 x 0 = some (x + 1) ∧ h.2.2.1 x 1 = some (x + 2) ∧ h.2.2.1 x 2 = some (x + 3) ∧ 28 ≤ x := by
  obtain ⟨q, hq, rfl⟩ := hx
  have e : ∀ o, o < 4 → h.1[t + 4 + 4 * q + o]? = if o = 0 then some (3, 8) else some (100, 20) := fun o ho => by
    rw [g.1, show t + 4 + 4 * q + o = t + (4 + 4 * q + o) by omega, shf_T ht (by omega), shT_i o ho]
  have f : ∀ k, k < 3 → h.2.2.1 (t + 4 + 4 * q) k = some (t + 4 + 4 * q + 1 + k) := fun k hk => by
    apply g.2
    rw [show t + 4 + 4 * q = t + (4 + 4 * q) by omega, rff_T ht (by omega)]
    unfold rfT
    rw [if_neg (by omega), if_neg (by omega), if_pos (by omega), if_pos hk]
    show some (t + (4 + 4 * q) + (1 + k)) = _
    congr 1
    omega
  refine ⟨e 0 (by omega), e 1 (by omega), e 2 (by omega), e 3 (by omega), f 0 (by omega), f 1 (by omega), f 2 (by omega), ?_⟩
  rcases ht with rfl | rfl | rfl | rfl <;> omega
/-- a text: how many items; field f of item i (name, kind, a, mark, many); piece k of item i (kind, a, b); the style -/
abbrev Tx : Type := Nat × (Nat → Nat → Int) × (Nat → Nat → Nat → Int) × (Nat → Int)
def itm (h : Hp) (t i : Nat) : Nat := (h.2.2.1 (t + 1) i).getD 0
/-- the Text at t stands for x -/
def RepC (h : Hp) (t : Nat) (x : Tx) : Prop := h.2.1 t 2 = (x.1 : Int) ∧ x.1 ≤ 60 ∧ (∀ i, i < 60 → h.2.2.1 (t + 1) i = some (itm h t i) ∧ isI t (itm h t i)) ∧ (∀ i j, i < 60 → j < 60 → itm h t i = itm h t j → i = j) ∧ (∀ f i, f < 5 → i < x.1 → h.2.1 (itm h t i) (3 + f) = x.2.1 f i) ∧ (∀ g i k : Nat, g < 3 → i < x.1 → (k : Int) < x.2.1 4 i → h.2.1 (itm h t i + 1 + g) k = x.2.2.1 g i k) ∧ ∀ k, k < 13 → h.2.1 (t + 3) k = x.2.2.2 k
/-- slot c of the reference stands for x -/
def RepM (h : Hp) (c : Nat) (x : Tx) : Prop := h.2.1 1086 c = (x.1 : Int) ∧ x.1 ≤ 60 ∧ (∀ f i, f < 5 → i < x.1 → h.2.1 (1088 + f) (60 * c + i) = x.2.1 f i) ∧ (∀ g i k : Nat, g < 3 → i < x.1 → (k : Int) < x.2.1 4 i → h.2.1 (1093 + g) (20 * (60 * c + i) + k) = x.2.2.1 g i k) ∧ ∀ k, k < 13 → h.2.1 1096 (13 * c + k) = x.2.2.2 k
def okPc (a b c : Int) : Prop := (a = 0 ∧ 1 ≤ b ∧ b ≤ 20 ∧ c = 0) ∨ (a = 1 ∧ 0 ≤ b ∧ b ≤ 99 ∧ 0 ≤ c ∧ c ≤ 2) ∨ (a = 2 ∧ 1 ≤ b ∧ b ≤ 5 ∧ c = 0)
def okIt (x : Tx) (i : Nat) : Prop := 0 ≤ x.2.1 0 i ∧ x.2.1 0 i < 200 ∧ 0 ≤ x.2.1 1 i ∧ x.2.1 1 i ≤ 6 ∧ ((x.2.1 1 i = 0 ∨ x.2.1 1 i = 4) → 1 ≤ x.2.1 2 i ∧ x.2.1 2 i ≤ 4) ∧ ((x.2.1 1 i = 2 ∨ x.2.1 1 i = 3) → 1 ≤ x.2.1 2 i ∧ x.2.1 2 i ≤ 8) ∧ -1 ≤ x.2.1 3 i ∧ x.2.1 3 i ≤ 99 ∧ 0 ≤ x.2.1 4 i ∧ x.2.1 4 i ≤ 20 ∧ (x.2.1 1 i ≠ 1 → x.2.1 4 i = 0)
def okStl (s : Nat → Int) : Prop := 8 ≤ s 0 ∧ s 0 ≤ 60 ∧ 10 ≤ s 1 ∧ s 1 ≤ 90 ∧ (∀ k, 2 ≤ k → k < 6 → 0 ≤ s k ∧ s k ≤ 2) ∧ ∀ k, 6 ≤ k → k < 13 → s k = 0 ∨ s k = 1
def okTx (x : Tx) : Prop := x.1 ≤ 60 ∧ (∀ i, i < x.1 → okIt x i) ∧ (∀ i k : Nat, i < x.1 → (k : Int) < x.2.1 4 i → okPc (x.2.2.1 0 i k) (x.2.2.1 1 i k) (x.2.2.1 2 i k)) ∧ (∀ i j, i < x.1 → j < x.1 → x.2.1 0 i = x.2.1 0 j → i = j) ∧ okStl x.2.2.2
/-- first place from i on, among d of them, that has p; else -1 -/
def fi (p : Nat → Bool) : Nat → Nat → Int
  | _, 0 => -1
  | i, d + 1 => if p i then (i : Int) else fi p (i + 1) d
/-- how much places from i on, among d of them, bring together -/
def sm (f : Nat → Int) : Nat → Nat → Int
  | _, 0 => 0
  | i, d + 1 => f i + sm f (i + 1) d
theorem fi_rng {p : Nat → Bool} : ∀ d i, -1 ≤ fi p i d ∧ fi p i d < ((i + d : Nat) : Int) + 1 ∧ (fi p i d = -1 ∨ ((i : Int) ≤ fi p i d ∧ fi p i d < ((i + d : Nat) : Int))) := by
  intro d
  induction d with
  | zero => intro i; simp [fi]; omega
  | succ d ih =>
    intro i
    unfold fi
    split
    · omega
    · have := ih (i + 1)
      omega
