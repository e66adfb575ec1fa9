/-! changes of the text: mathematics -/
/-- where the item at place i stood before the one at f came to t -/
def shI (f t i : Nat) : Nat := if i = t then f else if f ≤ i ∧ i < t then i + 1 else if t < i ∧ i ≤ f then i - 1 else i
def pmT (x : Tx) (s : Nat → Nat) (n : Nat) : Tx := (n, fun f i => x.2.1 f (s i), fun g i k => x.2.2.1 g (s i) k, x.2.2.2)
/-- a new item behind the last -/
def exT (x : Tx) (nm kd ms : Int) : Tx := (x.1 + 1, fun f i => if i = x.1 then (if f = 0 then nm else if f = 1 then kd else if f = 2 then ms else if f = 3 then -1 else 0) else x.2.1 f i, x.2.2.1, x.2.2.2)
theorem shI_lt {f t i n : Nat} (hf : f < n) (ht : t < n) (hi : i < n) : shI f t i < n := by unfold shI; (repeat' split) <;> omega
theorem shI_inj {f t i j : Nat} (h : shI f t i = shI f t j) : i = j := by unfold shI at h; (repeat' split at h) <;> omega
def RepQ (h : Hp) (t : Nat) (x : Tx) : Prop := x.1 ≤ 60 ∧ (∀ i, i < 60 → h.2.2.1 (t + 1) i = some (itm h t i) ∧ isI t (itm h t i)) ∧ (∀ i j, i < 60 → j < 60 → itm h t i = itm h t j → i = j) ∧ (∀ f i, f < 5 → i < x.1 → h.2.1 (itm h t i) (3 + f) = x.2.1 f i) ∧ (∀ g i k : Nat, g < 3 → i < x.1 → (k : Int) < x.2.1 4 i → h.2.1 (itm h t i + 1 + g) k = x.2.2.1 g i k) ∧ ∀ k, k < 13 → h.2.1 (t + 3) k = x.2.2.2 k
/-- the rows' references of Text t are those of h, by s -/
def ShR (h h2 : Hp) (t : Nat) (s : Nat → Nat) : Prop := h2.1 = h.1 ∧ h2.2.1 = h.2.1 ∧ h2.2.2.2 = h.2.2.2 ∧ (∀ a k, a ≠ t + 1 → h2.2.2.1 a k = h.2.2.1 a k) ∧ ∀ i, i < 60 → h2.2.2.1 (t + 1) i = h.2.2.1 (t + 1) (s i)
theorem ShR.im {h h2 : Hp} {t : Nat} {s : Nat → Nat} (m : ShR h h2 t s) {i : Nat} (hi : i < 60) : itm h2 t i = itm h t (s i) := by unfold itm; rw [m.2.2.2.2 i hi]
theorem ShR.rep {h h2 : Hp} {t : Nat} {s : Nat → Nat} {x : Tx} {n : Nat} (m : ShR h h2 t s) (R : RepQ h t x) (hs : ∀ i, i < 60 → s i < 60) (hj : ∀ i j, s i = s j → i = j) (hn : n ≤ 60) (hx : ∀ i, i < n → s i < x.1) : RepQ h2 t (pmT x s n) := by
  obtain ⟨R2, R3, R4, R5, R6, R7⟩ := R
  have e1 := m.2.1
  refine ⟨hn, fun i hi => ?_, fun i j hi hj2 e => ?_, fun f i hf hi => ?_, fun f i k hf hi hk => ?_, fun k hk => ?_⟩
  · rw [m.im hi, m.2.2.2.2 i hi]; exact R3 (s i) (hs i hi)
  · rw [m.im hi, m.im hj2] at e
    exact hj i j (R4 (s i) (s j) (hs i hi) (hs j hj2) e)
  · have hi9 : i < n := hi
    rw [m.im (by omega), e1]; exact R5 f (s i) hf (hx i hi9)
  · have hi9 : i < n := hi
    rw [m.im (by omega), e1]; exact R6 f (s i) k hf (hx i hi9) hk
  · rw [e1]; exact R7 k hk
theorem pm_ok {x : Tx} {s : Nat → Nat} {n : Nat} (hok : okTx x) (hn : n ≤ 60) (hx : ∀ i, i < n → s i < x.1) (hj : ∀ i j, s i = s j → i = j) : okTx (pmT x s n) := by
  obtain ⟨h1, h2, h3, h4, h5⟩ := hok
  exact ⟨hn, fun i hi => h2 (s i) (hx i hi), fun i k hi hk => h3 (s i) k (hx i hi) hk, fun i j hi hj2 e => hj i j (h4 (s i) (s j) (hx i hi) (hx j hj2) e), h5⟩
theorem ex_ok {x : Tx} {nm kd ms : Int} (hok : okTx x) (hn : x.1 < 60) (h0 : 0 ≤ nm ∧ nm < 200) (hk : 0 ≤ kd ∧ kd ≤ 6) (hm : ((kd = 0 ∨ kd = 4) → 1 ≤ ms ∧ ms ≤ 4) ∧ ((kd = 2 ∨ kd = 3) → 1 ≤ ms ∧ ms ≤ 8)) (hnew : ∀ i, i < x.1 → x.2.1 0 i < nm) : okTx (exT x nm kd ms) := by
  obtain ⟨h1, h2, h3, h4, h5⟩ := hok
  have e : ∀ f i, i < x.1 → (exT x nm kd ms).2.1 f i = x.2.1 f i := fun f i hi => if_neg (by omega)
  have e0 : ∀ f, (exT x nm kd ms).2.1 f x.1 = (if f = 0 then nm else if f = 1 then kd else if f = 2 then ms else if f = 3 then -1 else 0) := fun f => if_pos rfl
  refine ⟨by show x.1 + 1 ≤ 60; omega, fun i hi => ?_, fun i k hi hk2 => ?_, fun i j hi hj e9 => ?_, h5⟩
  · have hi2 : i < x.1 + 1 := hi
    by_cases c : i = x.1
    · subst c
      unfold okIt
      rw [e0 0, e0 1, e0 2, e0 3, e0 4]
      simp
      omega
    · have := h2 i (by omega)
      unfold okIt at this ⊢
      rw [e 0 i (by omega), e 1 i (by omega), e 2 i (by omega), e 3 i (by omega), e 4 i (by omega)]
      exact this
  · have hi2 : i < x.1 + 1 := hi
    by_cases c : i = x.1
    · subst c
      rw [e0 4] at hk2
      simp at hk2
      omega
    · rw [e 4 i (by omega)] at hk2
      exact h3 i k (by omega) hk2
  · have hi2 : i < x.1 + 1 := hi
    have hj2 : j < x.1 + 1 := hj
    by_cases c : i = x.1
    · by_cases d : j = x.1
      · omega
      · rw [c, e0 0, e 0 j (by omega), if_pos rfl] at e9
        have := hnew j (by omega)
        omega
    · by_cases d : j = x.1
      · rw [d, e0 0, e 0 i (by omega), if_pos rfl] at e9
        have := hnew i (by omega)
        omega
      · rw [e 0 i (by omega), e 0 j (by omega)] at e9
        exact h4 i j (by omega) (by omega) e9
/-- item q of x with field f changed -/
def fdT (x : Tx) (f q : Nat) (v : Int) : Tx := (x.1, fun g i => if g = f ∧ i = q then v else x.2.1 g i, x.2.2.1, x.2.2.2)
/-- a piece more of item q -/
def pcT (x : Tx) (q : Nat) (a b c : Int) : Tx := (x.1, fun g i => if g = 4 ∧ i = q then x.2.1 4 q + 1 else x.2.1 g i, fun g i k => if i = q ∧ (k : Int) = x.2.1 4 q then (if g = 0 then a else if g = 1 then b else c) else x.2.2.1 g i k, x.2.2.2)
theorem mk_ok {x : Tx} {q : Nat} {m : Int} (hok : okTx x) (hm : -1 ≤ m ∧ m ≤ 99) : okTx (fdT x 3 q m) := by
  obtain ⟨h1, h2, h3, h4, h5⟩ := hok
  have e : ∀ f i, f ≠ 3 → (fdT x 3 q m).2.1 f i = x.2.1 f i := fun f i hf => if_neg (fun z => hf z.1)
  refine ⟨h1, fun i hi => ?_, fun i k hi hk => ?_, fun i j hi hj e9 => ?_, h5⟩
  · have := h2 i hi
    unfold okIt at this ⊢
    rw [e 0 i (by omega), e 1 i (by omega), e 2 i (by omega), e 4 i (by omega)]
    have e3 : -1 ≤ (fdT x 3 q m).2.1 3 i ∧ (fdT x 3 q m).2.1 3 i ≤ 99 := by
      show -1 ≤ (if 3 = 3 ∧ i = q then m else x.2.1 3 i) ∧ (if 3 = 3 ∧ i = q then m else x.2.1 3 i) ≤ 99
      split <;> omega
    omega
  · rw [e 4 i (by omega)] at hk
    exact h3 i k hi hk
  · rw [e 0 i (by omega), e 0 j (by omega)] at e9
    exact h4 i j hi hj e9
theorem dr_ok {x : Tx} {q : Nat} (hok : okTx x) (hq : q < x.1) (h1 : x.2.1 4 q ≠ 0) : okTx (fdT x 4 q (x.2.1 4 q - 1)) := by
  obtain ⟨h0, h2, h3, h4, h5⟩ := hok
  have e : ∀ f i, f ≠ 4 → (fdT x 4 q (x.2.1 4 q - 1)).2.1 f i = x.2.1 f i := fun f i hf => if_neg (fun z => hf z.1)
  have e4 : ∀ i, (fdT x 4 q (x.2.1 4 q - 1)).2.1 4 i = if i = q then x.2.1 4 q - 1 else x.2.1 4 i := fun i => by
    show (if 4 = 4 ∧ i = q then _ else _) = _
    by_cases c : i = q
    · rw [if_pos ⟨rfl, c⟩, if_pos c]
    · rw [if_neg (fun z => c z.2), if_neg c]
  refine ⟨h0, fun i hi => ?_, fun i k hi hk => ?_, fun i j hi hj e9 => ?_, h5⟩
  · have := h2 i hi
    unfold okIt at this ⊢
    rw [e 0 i (by omega), e 1 i (by omega), e 2 i (by omega), e 3 i (by omega), e4 i]
    by_cases c : i = q
    · subst c
      rw [if_pos rfl]
      omega
    · rw [if_neg c]
      exact this
  · rw [e4 i] at hk
    refine h3 i k hi ?_
    by_cases c : i = q
    · subst c
      rw [if_pos rfl] at hk
      omega
    · rw [if_neg c] at hk
      exact hk
  · rw [e 0 i (by omega), e 0 j (by omega)] at e9
    exact h4 i j hi hj e9
theorem pc_ok {x : Tx} {q : Nat} {a b c : Int} (hok : okTx x) (hq : q < x.1) (h1 : x.2.1 1 q = 1) (h20 : x.2.1 4 q < 20) (hp : okPc a b c) : okTx (pcT x q a b c) := by
  obtain ⟨h0, h2, h3, h4, h5⟩ := hok
  have e : ∀ f i, f ≠ 4 → (pcT x q a b c).2.1 f i = x.2.1 f i := fun f i hf => if_neg (fun z => hf z.1)
  have e4 : ∀ i, (pcT x q a b c).2.1 4 i = if i = q then x.2.1 4 q + 1 else x.2.1 4 i := fun i => by
    show (if 4 = 4 ∧ i = q then _ else _) = _
    by_cases c : i = q
    · rw [if_pos ⟨rfl, c⟩, if_pos c]
    · rw [if_neg (fun z => c z.2), if_neg c]
  refine ⟨h0, fun i hi => ?_, fun i k hi hk => ?_, fun i j hi hj e9 => ?_, h5⟩
  · have := h2 i hi
    unfold okIt at this ⊢
    rw [e 0 i (by omega), e 1 i (by omega), e 2 i (by omega), e 3 i (by omega), e4 i]
    by_cases c : i = q
    · subst c
      rw [if_pos rfl]
      omega
    · rw [if_neg c]
      exact this
  · rw [e4 i] at hk
    show okPc (if i = q ∧ (k : Int) = x.2.1 4 q then a else x.2.2.1 0 i k) (if i = q ∧ (k : Int) = x.2.1 4 q then b else x.2.2.1 1 i k) (if i = q ∧ (k : Int) = x.2.1 4 q then c else x.2.2.1 2 i k)
    by_cases d : i = q ∧ (k : Int) = x.2.1 4 q
    · rw [if_pos d, if_pos d, if_pos d]; exact hp
    · rw [if_neg d, if_neg d, if_neg d]
      refine h3 i k hi ?_
      by_cases c : i = q
      · subst c
        rw [if_pos rfl] at hk
        have : ¬ (k : Int) = x.2.1 4 i := fun z => d ⟨rfl, z⟩
        omega
      · rw [if_neg c] at hk
        exact hk
  · rw [e 0 i (by omega), e 0 j (by omega)] at e9
    exact h4 i j hi hj e9
/-- the state with another text -/
def wT (S : St) (x : Tx) : St := (x, S.2.1, S.2.2.1, S.2.2.2.1, S.2.2.2.2.1, S.2.2.2.2.2.1, S.2.2.2.2.2.2)
def gdPut (S : St) (i kd a : Int) : Prop := 0 ≤ i ∧ i ≤ (S.1.1 : Int) ∧ 0 ≤ kd ∧ kd ≤ 6 ∧ ((kd = 0 ∨ kd = 4) → 1 ≤ a ∧ a ≤ 4) ∧ ((kd = 2 ∨ kd = 3) → 1 ≤ a ∧ a ≤ 8)
def msOf (kd a : Int) : Int := if kd = 0 ∨ kd = 4 ∨ kd = 2 ∨ kd = 3 then a else 0
def fuPut (S : St) : Prop := S.1.1 = 60 ∨ S.2.2.2.1 = 200
def nwPut (S : St) (i kd a : Int) : St := (pmT (exT S.1 (S.2.2.2.1 : Int) kd (msOf kd a)) (shI S.1.1 i.toNat) (S.1.1 + 1), S.2.1, S.2.2.1, S.2.2.2.1 + 1, S.2.2.2.2.1, S.2.2.2.2.2.1, S.2.2.2.2.2.2)
noncomputable def oPut (S : St) (i kd a : Int) : St := @ite _ (gdPut S i kd a ∧ ¬ fuPut S) (Classical.propDecidable _) (nwPut S i kd a) S
noncomputable def aPut (S : St) (i kd a : Int) : Int := @ite _ (gdPut S i kd a) (Classical.propDecidable _) (@ite _ (fuPut S) (Classical.propDecidable _) (-1004) (S.2.2.2.1 : Int)) (-1002)
def hs (S : St) (i : Int) : Prop := 0 ≤ i ∧ i < (S.1.1 : Int)
def oCut (S : St) (i : Int) : St := if 0 ≤ i ∧ i < (S.1.1 : Int) then wT S (pmT S.1 (shI i.toNat (S.1.1 - 1)) (S.1.1 - 1)) else S
def aCut (S : St) (i : Int) : Int := if 0 ≤ i ∧ i < (S.1.1 : Int) then S.1.2.1 0 i.toNat else -1001
def oMove (S : St) (i j : Int) : St := if (0 ≤ i ∧ i < (S.1.1 : Int)) ∧ (0 ≤ j ∧ j < (S.1.1 : Int)) then wT S (pmT S.1 (shI i.toNat j.toNat) S.1.1) else S
def aMove (S : St) (i j : Int) : Int := if (0 ≤ i ∧ i < (S.1.1 : Int)) ∧ (0 ≤ j ∧ j < (S.1.1 : Int)) then 1 else -1001
def oMark (S : St) (i m : Int) : St := if (0 ≤ i ∧ i < (S.1.1 : Int)) ∧ -1 ≤ m ∧ m ≤ 99 then wT S (fdT S.1 3 i.toNat m) else S
def aMark (S : St) (i m : Int) : Int := if ¬ (0 ≤ i ∧ i < (S.1.1 : Int)) then -1001 else if ¬ (-1 ≤ m ∧ m ≤ 99) then -1002 else S.1.2.1 3 i.toNat
def gdPc (kd a b : Int) : Prop := (kd = 0 ∧ 1 ≤ a ∧ a ≤ 20) ∨ (kd = 1 ∧ 0 ≤ a ∧ a ≤ 99 ∧ 0 ≤ b ∧ b ≤ 2) ∨ (kd = 2 ∧ 1 ≤ a ∧ a ≤ 5)
def oPiece (S : St) (i kd a b : Int) : St := if (0 ≤ i ∧ i < (S.1.1 : Int)) ∧ ((kd = 0 ∧ 1 ≤ a ∧ a ≤ 20) ∨ (kd = 1 ∧ 0 ≤ a ∧ a ≤ 99 ∧ 0 ≤ b ∧ b ≤ 2) ∨ (kd = 2 ∧ 1 ≤ a ∧ a ≤ 5)) ∧ S.1.2.1 1 i.toNat = 1 ∧ S.1.2.1 4 i.toNat < 20 then wT S (pcT S.1 i.toNat kd a (if kd = 1 then b else 0)) else S
def aPiece (S : St) (i kd a b : Int) : Int := if ¬ (0 ≤ i ∧ i < (S.1.1 : Int)) then -1001 else if ¬ ((kd = 0 ∧ 1 ≤ a ∧ a ≤ 20) ∨ (kd = 1 ∧ 0 ≤ a ∧ a ≤ 99 ∧ 0 ≤ b ∧ b ≤ 2) ∨ (kd = 2 ∧ 1 ≤ a ∧ a ≤ 5)) then -1002 else if ¬ S.1.2.1 1 i.toNat = 1 then -1003 else if ¬ S.1.2.1 4 i.toNat < 20 then -1004 else S.1.2.1 4 i.toNat + 1
def oDrop (S : St) (i : Int) : St := if (0 ≤ i ∧ i < (S.1.1 : Int)) ∧ S.1.2.1 1 i.toNat = 1 ∧ S.1.2.1 4 i.toNat ≠ 0 then wT S (fdT S.1 4 i.toNat (S.1.2.1 4 i.toNat - 1)) else S
def aDrop (S : St) (i : Int) : Int := if ¬ (0 ≤ i ∧ i < (S.1.1 : Int)) then -1001 else if ¬ (S.1.2.1 1 i.toNat = 1 ∧ S.1.2.1 4 i.toNat ≠ 0) then -1003 else S.1.2.1 4 i.toNat - 1
theorem wT_ok {S : St} {x : Tx} (ok : okS S) (hx : okTx x) (hn : ∀ i, i < x.1 → x.2.1 0 i < (S.2.2.2.1 : Int)) : okS (wT S x) := ⟨hx, ok.2.1, ok.2.2.1, ok.2.2.2.1, hn, ok.2.2.2.2.2⟩
theorem oCut_ok {S : St} {i : Int} (ok : okS S) : okS (oCut S i) := by
  unfold oCut
  have h60 := ok.1.1
  split
  · rename_i c
    exact wT_ok ok (pm_ok ok.1 (by omega) (fun j hj => shI_lt (by omega) (by omega) (by omega)) (fun a b => shI_inj)) (fun j hj => ok.2.2.2.2.1 _ (shI_lt (by omega) (by omega) (by have hj2 : j < S.1.1 - 1 := hj; omega)))
  · exact ok
theorem oMove_ok {S : St} {i j : Int} (ok : okS S) : okS (oMove S i j) := by
  unfold oMove
  have h60 := ok.1.1
  split
  · rename_i c
    exact wT_ok ok (pm_ok ok.1 (by omega) (fun j hj => shI_lt (by omega) (by omega) hj) (fun a b => shI_inj)) (fun j hj => ok.2.2.2.2.1 _ (shI_lt (by omega) (by omega) hj))
  · exact ok
theorem oMark_ok {S : St} {i m : Int} (ok : okS S) : okS (oMark S i m) := by
  unfold oMark
  split
  · rename_i c
    exact wT_ok ok (mk_ok ok.1 c.2) (fun j hj => ok.2.2.2.2.1 j hj)
  · exact ok
theorem oDrop_ok {S : St} {i : Int} (ok : okS S) : okS (oDrop S i) := by
  unfold oDrop
  split
  · rename_i c
    exact wT_ok ok (dr_ok ok.1 (by omega) c.2.2) (fun j hj => ok.2.2.2.2.1 j hj)
  · exact ok
theorem oPiece_ok {S : St} {i kd a b : Int} (ok : okS S) : okS (oPiece S i kd a b) := by
  unfold oPiece
  split
  · rename_i c
    refine wT_ok ok (pc_ok ok.1 (by omega) c.2.2.1 c.2.2.2 ?_) (fun j hj => ok.2.2.2.2.1 j hj)
    unfold okPc
    by_cases k1 : kd = 1
    · rw [if_pos k1]; omega
    · rw [if_neg k1]; omega
  · exact ok
theorem oPut_ok {S : St} {i kd a : Int} (ok : okS S) : okS (oPut S i kd a) := by
  unfold oPut
  by_cases c : gdPut S i kd a ∧ ¬ fuPut S
  · rw [if_pos c]
    have h60 := ok.1.1
    have h200 := ok.2.2.2.1
    obtain ⟨⟨c1, c2, c3, c4, c5, c6⟩, c7⟩ := c
    unfold fuPut at c7
    have m1 : ((kd = 0 ∨ kd = 4) → 1 ≤ msOf kd a ∧ msOf kd a ≤ 4) ∧ ((kd = 2 ∨ kd = 3) → 1 ≤ msOf kd a ∧ msOf kd a ≤ 8) := by
      unfold msOf
      refine ⟨fun z => ?_, fun z => ?_⟩
      · rw [if_pos (by omega)]; exact c5 z
      · rw [if_pos (by omega)]; exact c6 z
    have e1 := ex_ok (kd := kd) (nm := (S.2.2.2.1 : Int)) ok.1 (by omega) (by omega) ⟨c3, c4⟩ m1 ok.2.2.2.2.1
    refine ⟨pm_ok e1 (by omega) (fun j hj => shI_lt (by show S.1.1 < S.1.1 + 1; omega) (by show i.toNat < S.1.1 + 1; omega) hj) (fun a b => shI_inj), ok.2.1, ok.2.2.1, by show S.2.2.2.1 + 1 ≤ 200; omega, fun j hj => ?_, fun v j hv hj => ?_, ok.2.2.2.2.2.2⟩
    · have hj2 : j < S.1.1 + 1 := hj
      have e2 : shI S.1.1 i.toNat j < S.1.1 + 1 := shI_lt (by omega) (by omega) hj2
      show (if shI S.1.1 i.toNat j = S.1.1 then _ else S.1.2.1 0 (shI S.1.1 i.toNat j)) < ((S.2.2.2.1 + 1 : Nat) : Int)
      split
      · simp
        omega
      · have := ok.2.2.2.2.1 (shI S.1.1 i.toNat j) (by omega)
        omega
    · have := ok.2.2.2.2.2.1 v j hv hj
      show (S.2.1 v).2.1 0 j < ((S.2.2.2.1 + 1 : Nat) : Int)
      omega
  · rw [if_neg c]; exact ok
