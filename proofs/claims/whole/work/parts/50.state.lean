/-! the state for which both sides stand -/
/-- the text, the versions, which are kept, names given, bytes fed, the bytes, the fault's place -/
abbrev St : Type := Tx × (Nat → Tx) × (Nat → Int) × Nat × Nat × (Nat → Int) × Int
def okS (S : St) : Prop := okTx S.1 ∧ (∀ v, v < 3 → okTx (S.2.1 v)) ∧ (∀ v, v < 3 → S.2.2.1 v = 0 ∨ S.2.2.1 v = 1) ∧ S.2.2.2.1 ≤ 200 ∧ (∀ i, i < S.1.1 → S.1.2.1 0 i < (S.2.2.2.1 : Int)) ∧ (∀ v i, v < 3 → i < (S.2.1 v).1 → (S.2.1 v).2.1 0 i < (S.2.2.2.1 : Int)) ∧ S.2.2.2.2.1 ≤ 160 ∧ ∀ k, k < S.2.2.2.2.1 → 0 ≤ S.2.2.2.2.2.1 k ∧ S.2.2.2.2.2.1 k ≤ 255
def InvC (L : Nat) (h : Hp) (S : St) : Prop := GG L h ∧ CN h ∧ RepC h 29 S.1 ∧ (∀ v, v < 3 → RepC h (353 + 244 * v) (S.2.1 v)) ∧ (∀ v, v < 3 → h.2.1 274 v = S.2.2.1 v) ∧ h.2.1 28 9 = (S.2.2.2.1 : Int) ∧ (h.2.1 28 10 = 0 ∨ (h.2.1 28 10 = 1 ∧ SetC h 294 29 S.1 (S.1.2.2.2 0))) ∧ h.2.1 347 1 = (S.2.2.2.2.1 : Int) ∧ (∀ k, k < S.2.2.2.2.1 → h.2.1 350 k = S.2.2.2.2.2.1 k) ∧ h.2.1 347 3 = S.2.2.2.2.2.2
def InvM (L : Nat) (h : Hp) (S : St) : Prop := GG L h ∧ RepM h 3 S.1 ∧ (∀ v, v < 3 → S.2.2.1 v = 1 → RepM h v (S.2.1 v)) ∧ (∀ v, v < 3 → h.2.1 1087 v = S.2.2.1 v) ∧ h.2.1 1085 11 = (S.2.2.2.1 : Int) ∧ h.2.1 1085 49 = (S.2.2.2.2.1 : Int) ∧ (∀ k, k < S.2.2.2.2.1 → h.2.1 1125 k = S.2.2.2.2.2.1 k) ∧ h.2.1 1085 50 = S.2.2.2.2.2.2
/-- only the class's cells changed -/
def FxC (h h2 : Hp) : Prop := ∀ a k, a < 28 ∨ 1085 ≤ a → h2.2.1 a k = h.2.1 a k
/-- only the reference's cells changed -/
def FxM (h h2 : Hp) : Prop := Sm (fun a _ => 1085 ≤ a) h h2
theorem FxC.refl {h : Hp} : FxC h h := fun _ _ _ => rfl
theorem FxC.trans {h h2 h3 : Hp} (p : FxC h h2) (q : FxC h2 h3) : FxC h h3 := fun a k e => (q a k e).trans (p a k e)
theorem FxC.sm {S : Nat → Nat → Prop} {h h2 : Hp} (m : Sm S h h2) (hS : ∀ a k, S a k → 28 ≤ a ∧ a < 1085) : FxC h h2 := fun a k e => m.2.2 a k (fun z => by have := hS a k z; omega)
theorem RepC.fr {h h2 : Hp} {t : Nat} {x : Tx} (R : RepC h t x) (hr : ∀ i, h2.2.2.1 (t + 1) i = h.2.2.1 (t + 1) i) (hi : ∀ a k, t ≤ a → a < t + 244 → h2.2.1 a k = h.2.1 a k) : RepC h2 t x := by
  have ei : ∀ i, itm h2 t i = itm h t i := fun i => by unfold itm; rw [hr]
  obtain ⟨R1, R2, R3, R4, R5, R6, R7⟩ := R
  refine ⟨?_, R2, ?_, ?_, ?_, ?_, ?_⟩
  · rw [hi _ _ (by omega) (by omega)]; exact R1
  · intro i hi2
    rw [ei, hr]; exact R3 i hi2
  · intro i j hi2 hj
    rw [ei, ei]; exact R4 i j hi2 hj
  · intro f i hf hi2
    obtain ⟨q, hq, hx⟩ := (R3 i (by omega)).2
    rw [ei, hi _ _ (by omega) (by omega)]; exact R5 f i hf hi2
  · intro f i k hf hi2 hk
    obtain ⟨q, hq, hx⟩ := (R3 i (by omega)).2
    rw [ei, hi _ _ (by omega) (by omega)]; exact R6 f i k hf hi2 hk
  · intro k hk
    rw [hi _ _ (by omega) (by omega)]; exact R7 k hk
theorem RepM.fr {h h2 : Hp} {c : Nat} {x : Tx} (R : RepM h c x) (hi : ∀ a k, 1086 ≤ a → a ≤ 1096 → h2.2.1 a k = h.2.1 a k) : RepM h2 c x := by
  obtain ⟨R1, R2, R3, R4, R5⟩ := R
  refine ⟨?_, R2, ?_, ?_, ?_⟩
  · rw [hi _ _ (by omega) (by omega)]; exact R1
  · intro f i hf hi2
    rw [hi _ _ (by omega) (by omega)]; exact R3 f i hf hi2
  · intro f i k hf hi2 hk
    rw [hi _ _ (by omega) (by omega)]; exact R4 f i k hf hi2 hk
  · intro k hk
    rw [hi _ _ (by omega) (by omega)]; exact R5 k hk
theorem SetC.fr {h h2 : Hp} {s t : Nat} {x : Tx} {H : Int} (y : SetC h s t x H) (hr : h2.2.2.1 s 8 = h.2.2.1 s 8) (hi : ∀ a k, s ≤ a → a ≤ s + 24 → h2.2.1 a k = h.2.1 a k) : SetC h2 s t x H := by
  have e : ∀ a, s ≤ a → a ≤ s + 24 → h2.2.1 a = h.2.1 a := fun a h1 h3 => funext (fun k => hi a k h1 h3)
  unfold SetC PgC LyC PcK NmR at y ⊢
  rw [hr, e s (by omega) (by omega), e (s + 2) (by omega) (by omega), e (s + 2 + 1) (by omega) (by omega), e (s + 2 + 2) (by omega) (by omega), e (s + 2 + 3) (by omega) (by omega), e (s + 2 + 4) (by omega) (by omega), e (s + 2 + 5) (by omega) (by omega), e (s + 8) (by omega) (by omega), e (s + 9) (by omega) (by omega), e (s + 10) (by omega) (by omega), e (s + 11) (by omega) (by omega), e (s + 20) (by omega) (by omega), e (s + 21) (by omega) (by omega), e (s + 23) (by omega) (by omega), e (s + 24) (by omega) (by omega), e (s + 14 + 1) (by omega) (by omega), e (s + 14 + 2) (by omega) (by omega), e (s + 14 + 3) (by omega) (by omega), e (s + 14 + 4) (by omega) (by omega)]
  exact y
theorem CN.fr {h h2 : Hp} (C : CN h) (hr : ∀ a k, a < 28 → h2.2.2.1 a k = h.2.2.1 a k) (hi : ∀ a k, a < 28 → h2.2.1 a k = h.2.1 a k) : CN h2 := by
  obtain ⟨C1, C2, C3, C4, C5⟩ := C
  refine ⟨fun k => ?_, fun k => ?_, fun i k hi2 => ?_, fun i hi2 => ?_, fun i hi2 => ?_⟩
  · rw [hi _ _ (by omega)]; exact C1 k
  · rw [hi _ _ (by omega)]; exact C2 k
  · rw [hi _ _ (by omega)]; exact C3 i k hi2
  · rw [hi _ _ (by omega)]; exact C4 i hi2
  · rw [hr _ _ (by omega)]; exact C5 i hi2
/-- cells that the class's state doesn't lie in: numbers, rows of rounds, trial, sections, the reader's draft and tokens -/
def idle (a k : Nat) : Prop := (275 ≤ a ∧ a ≤ 293) ∨ (319 ≤ a ∧ a ≤ 346) ∨ (a = 347 ∧ k ≠ 1 ∧ k ≠ 3) ∨ (348 ≤ a ∧ a ≤ 352 ∧ a ≠ 350) ∨ 1085 ≤ a
theorem InvC.fr {L : Nat} {h h2 : Hp} {S : St} (I : InvC L h S) (g2 : GG L h2) (hr : ∀ a k, a ≠ 319 → h2.2.2.1 a k = h.2.2.1 a k) (hi : ∀ a k, ¬ idle a k → h2.2.1 a k = h.2.1 a k) : InvC L h2 S := by
  obtain ⟨I1, I2, I3, I4, I5, I6, I7, I8, I9, I10⟩ := I
  refine ⟨g2, I2.fr (fun a k e => hr a k (by omega)) (fun a k e => hi a k (by unfold idle; omega)), I3.fr (fun i => hr _ _ (by omega)) (fun a k e1 e2 => hi a k (by unfold idle; omega)), fun v hv => (I4 v hv).fr (fun i => hr _ _ (by omega)) (fun a k e1 e2 => hi a k (by unfold idle; omega)), fun v hv => ?_, ?_, ?_, ?_, fun k hk => ?_, ?_⟩
  · rw [hi _ _ (by unfold idle; omega)]; exact I5 v hv
  · rw [hi _ _ (by unfold idle; omega)]; exact I6
  · rw [hi _ _ (by unfold idle; omega)]
    rcases I7 with e | ⟨e, e2⟩
    · exact Or.inl e
    · exact Or.inr ⟨e, e2.fr (hr _ _ (by omega)) (fun a k e1 e2 => hi a k (by unfold idle; omega))⟩
  · rw [hi _ _ (by unfold idle; omega)]; exact I8
  · rw [hi _ _ (by unfold idle; omega)]; exact I9 k hk
  · rw [hi _ _ (by unfold idle; omega)]; exact I10
theorem InvC.sm {L : Nat} {h h2 : Hp} {S : St} {T : Nat → Nat → Prop} (I : InvC L h S) (m : Sm T h h2) (hT : ∀ a k, T a k → idle a k) : InvC L h2 S := I.fr (m.gg I.1) (fun a k _ => by rw [m.2.1]) (fun a k e => m.2.2 a k (fun z => e (hT a k z)))
theorem InvC.frM {L : Nat} {h h2 : Hp} {S : St} (I : InvC L h S) (m : FxM h h2) : InvC L h2 S := I.sm m (fun a k z => by unfold idle; omega)
def idleM (a k : Nat) : Prop := a < 1085 ∨ (a = 1085 ∧ k ≠ 11 ∧ k ≠ 49 ∧ k ≠ 50) ∨ (1097 ≤ a ∧ a ≠ 1125)
theorem InvM.fr {L : Nat} {h h2 : Hp} {S : St} (I : InvM L h S) (g2 : GG L h2) (hi : ∀ a k, ¬ idleM a k → h2.2.1 a k = h.2.1 a k) : InvM L h2 S := by
  obtain ⟨I1, I2, I3, I4, I5, I6, I7, I8⟩ := I
  refine ⟨g2, I2.fr (fun a k e1 e2 => hi a k (by unfold idleM; omega)), fun v hv e => (I3 v hv e).fr (fun a k e1 e2 => hi a k (by unfold idleM; omega)), fun v hv => ?_, ?_, ?_, fun k hk => ?_, ?_⟩
  · rw [hi _ _ (by unfold idleM; omega)]; exact I4 v hv
  · rw [hi _ _ (by unfold idleM; omega)]; exact I5
  · rw [hi _ _ (by unfold idleM; omega)]; exact I6
  · rw [hi _ _ (by unfold idleM; omega)]; exact I7 k hk
  · rw [hi _ _ (by unfold idleM; omega)]; exact I8
theorem InvM.sm {L : Nat} {h h2 : Hp} {S : St} {T : Nat → Nat → Prop} (I : InvM L h S) (m : Sm T h h2) (hT : ∀ a k, T a k → idleM a k) : InvM L h2 S := I.fr (m.gg I.1) (fun a k e => m.2.2 a k (fun z => e (hT a k z)))
theorem InvM.frC {L : Nat} {h h2 : Hp} {S : St} (I : InvM L h S) (g2 : GG L h2) (m : FxC h h2) : InvM L h2 S := I.fr g2 (fun a k e => m a k (by unfold idleM at e; omega))
