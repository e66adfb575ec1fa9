/-! the first state -/
def x0T : Tx := (0, fun _ _ => 0, fun _ _ _ => 0, sty0)
def S0T : St := (x0T, fun _ => x0T, fun _ => 0, 0, 0, fun _ => 0, -1)
theorem x0_ok : okTx x0T := ⟨by decide, fun i hi => absurd hi (Nat.not_lt_zero _), fun i k hi => absurd hi (Nat.not_lt_zero _), fun i j hi => absurd hi (Nat.not_lt_zero _), (okR.m_stt (b := fun _ => 0) (n := 0)).2.2.2.2.1⟩
theorem S0_ok : okS S0T := ⟨x0_ok, fun _ _ => x0_ok, fun _ _ => Or.inl rfl, by decide, fun i hi => absurd hi (Nat.not_lt_zero _), fun v i _ hi => absurd hi (Nat.not_lt_zero _), by decide, fun k hk => absurd hk (Nat.not_lt_zero _)⟩
theorem shf_L {L a : Nat} (h : 28 ≤ a) : shf L a = shf 0 a := by
  unfold shf
  simp only [if_neg (show ¬ a < 28 by omega)]
/-- both objects made: h1 behind the class's constructor, h2 behind the reference's -/
theorem first_st {L : Nat} {h h1 h2 : Hp} (hs : h.1 = c0sh L) (hC : CN h) {F : Nat → Option Nat} {I : Nat → Option Int} {G : Nat → Nat → Option Nat} {Z : Nat → Nat → Option Int} (D : Ds (alc h 0 11) h1 29 28 1056 (fun q => shf 0 (29 + q)) (fun k => rff 28 k) (fun k => if k = 9 ∨ k = 10 then some 0 else none) (fun q k => rfX (29 + q) k) (fun q k => zX (29 + q) k)) (E : Ds (alc h1 10 57) h2 1086 1085 41 (fun q => shMod[q + 1]?) F I G Z) (hF : ∀ k b, rff 1085 k = some b → F k = some b) (hI : I 50 = some (-1) ∧ I 11 = some 0 ∧ I 49 = some 0) (hZ : (∀ c, c < 4 → Z 0 c = some 0) ∧ (∀ c, c < 3 → Z 1 c = some 0) ∧ ∀ k, k < 13 → Z 10 (39 + k) = some (sty0 k)) : InvC L h2 S0T ∧ InvM L h2 S0T ∧ ∀ k, h2.2.1 0 k = h.2.1 0 k := by
  obtain ⟨d1, d2, d3, d4, d5, d6, d7, d8, d9, d10⟩ := D
  obtain ⟨e1, e2, e3, e4, e5, e6, e7, e8, e9, e10⟩ := E
  have hl : h.1.length = 28 := by rw [hs]; rfl
  have hl1 : h1.1.length = 1085 := d3
  have lo : ∀ a k, a < 1085 → h2.2.1 a k = h1.2.1 a k ∧ h2.2.2.1 a k = h1.2.2.1 a k := fun a k ha => by
    obtain ⟨y1, y2⟩ := e6 a k (by omega) (by omega)
    rw [y1, y2, alc_i (by omega), alc_r (by omega)]
    exact ⟨rfl, rfl⟩
  have lo2 : ∀ a k, a < 28 → h2.2.1 a k = h.2.1 a k ∧ h2.2.2.1 a k = h.2.2.1 a k := fun a k ha => by
    obtain ⟨y1, y2⟩ := d6 a k (by omega) (by omega)
    rw [(lo a k (by omega)).1, (lo a k (by omega)).2, y1, y2, alc_i (by omega), alc_r (by omega)]
    exact ⟨rfl, rfl⟩
  have rX : ∀ a k b, 29 ≤ a → a < 1085 → rfX a k = some b → h2.2.2.1 a k = some b := fun a k b h1_ h2_ e => by
    rw [(lo a k h2_).2]
    have := d9 (a - 29) k b (by omega) (by show rfX (29 + (a - 29)) k = some b; rw [show 29 + (a - 29) = a by omega]; exact e)
    rw [show 29 + (a - 29) = a by omega] at this
    exact this
  have zz : ∀ a k z, 29 ≤ a → a < 1085 → zX a k = some z → h2.2.1 a k = z := fun a k z h1_ h2_ e => by
    rw [(lo a k h2_).1]
    have := d10 (a - 29) k z (by omega) (by show zX (29 + (a - 29)) k = some z; rw [show 29 + (a - 29) = a by omega]; exact e)
    rw [show 29 + (a - 29) = a by omega] at this
    exact this
  have hsh : ∀ a, h2.1[a]? = shf L a := fun a => by
    by_cases a1 : a < 1085
    · rw [e4 a (by omega), alc_s (by omega)]
      by_cases a2 : a < 29
      · rw [d4 a a2]
        by_cases a3 : a < 28
        · rw [alc_s (by omega), hs]
          unfold shf
          rw [if_pos a3]
        · have a4 : a = 28 := by omega
          rw [a4, ← hl, alc_s2, hl]; rfl
      · have this : h1.1[29 + (a - 29)]? = shf 0 (29 + (a - 29)) := d5 (a - 29) (by omega)
        rw [show 29 + (a - 29) = a by omega] at this
        rw [this]; exact (shf_L (by omega)).symm
    · have es : shf L a = shMod[a - 1085]? := by
        unfold shf
        rw [if_neg (by omega), if_neg (by omega), if_neg (by omega), if_neg (by omega), if_neg (by omega), if_neg (by omega), if_neg (by omega), if_neg (by omega), if_neg (by omega), if_neg (by omega), if_neg (by omega), if_neg (by omega), if_neg (by omega), if_neg (by omega)]
      rw [es]
      by_cases a2 : a = 1085
      · rw [a2, e4 1085 (by omega), ← hl1, alc_s2, hl1]; rfl
      · by_cases a3 : a < 1127
        · have this : h2.1[1086 + (a - 1086)]? = shMod[a - 1086 + 1]? := e5 (a - 1086) (by omega)
          rw [show 1086 + (a - 1086) = a by omega, show a - 1086 + 1 = a - 1085 by omega] at this
          exact this
        · rw [List.getElem?_eq_none (by omega), List.getElem?_eq_none (by show 42 ≤ a - 1085; omega)]
  have gg : GG L h2 := by
    refine ⟨hsh, fun a k b e => ?_⟩
    by_cases a1 : a < 1085
    · by_cases a2 : a < 29
      · by_cases a3 : a = 28
        · rw [a3, (lo 28 k (by omega)).2]
          rw [a3] at e
          exact d7 k b e
        · exfalso
          unfold rff at e
          rw [if_neg a3, if_pos a2] at e
          cases e
      · refine rX a k b (by omega) a1 ?_
        unfold rfX
        have r1 : ∀ t, isT t → a ≠ t + 1 := fun t ht z => by
          rw [z, rff_T ht (by omega)] at e
          have : rfT 1 k = none := rfl
          rw [this] at e
          cases e
        have r2 := r1 29 (Or.inl rfl)
        have r3 := r1 353 (Or.inr (Or.inl rfl))
        have r4 := r1 597 (Or.inr (Or.inr (Or.inl rfl)))
        have r5 := r1 841 (Or.inr (Or.inr (Or.inr rfl)))
        rw [if_neg (by omega), if_neg (by omega), if_neg (by omega), if_neg (by omega)]
        exact e
    · by_cases a2 : a = 1085
      · rw [a2] at e ⊢
        exact e7 k b (hF k b e)
      · exfalso
        unfold rff at e
        rw [if_neg (by omega), if_neg (by omega), if_neg (by omega), if_neg (by omega), if_neg (by omega), if_neg (by omega), if_neg (by omega), if_neg (by omega), if_neg (by omega), if_neg (by omega), if_neg (by omega), if_neg (by omega), if_neg (by omega), if_neg (by omega), if_neg (by omega), if_neg (by omega), if_neg (by omega)] at e
        cases e
  have rep : ∀ t, isT t → RepC h2 t x0T := fun t ht => by
    have hi : ∀ i, i < 60 → h2.2.2.1 (t + 1) i = some (t + 4 + 4 * i) := fun i hi => by
      rcases ht with rfl | rfl | rfl | rfl <;> refine rX _ i _ (by omega) (by omega) ?_ <;> unfold rfX
      · rw [if_pos rfl, if_pos hi]
      · rw [if_neg (by omega), if_pos rfl, if_pos hi]
      · rw [if_neg (by omega), if_neg (by omega), if_pos rfl, if_pos hi]
      · rw [if_neg (by omega), if_neg (by omega), if_neg (by omega), if_pos rfl, if_pos hi]
    have hi2 : ∀ i, i < 60 → itm h2 t i = t + 4 + 4 * i := fun i h3 => by unfold itm; rw [hi i h3]; rfl
    refine ⟨?_, by decide, fun i h3 => ?_, fun i j h3 h4 => ?_, fun f i _ h3 => absurd h3 (Nat.not_lt_zero _), fun g i k _ h3 => absurd h3 (Nat.not_lt_zero _), fun k hk => ?_⟩
    · rcases ht with rfl | rfl | rfl | rfl <;> exact zz _ 2 0 (by omega) (by omega) rfl
    · rw [hi2 i h3, hi i h3]
      exact ⟨rfl, i, h3, rfl⟩
    · rw [hi2 i h3, hi2 j h4]
      omega
    · rcases ht with rfl | rfl | rfl | rfl <;> refine zz _ k _ (by omega) (by omega) ?_ <;> unfold zX <;> rw [if_neg (by omega), if_pos (by omega)] <;> rfl
  refine ⟨⟨gg, ?_, rep 29 (Or.inl rfl), fun v hv => rep _ ?_, fun v hv => ?_, ?_, Or.inl ?_, zz 347 1 0 (by omega) (by omega) rfl, fun k hk => absurd hk (Nat.not_lt_zero _), zz 347 3 (-1) (by omega) (by omega) rfl⟩, ⟨gg, ⟨?_, by decide, fun f i _ h3 => absurd h3 (Nat.not_lt_zero _), fun g i k _ h3 => absurd h3 (Nat.not_lt_zero _), fun k hk => ?_⟩, fun v hv e => absurd e (by show ¬ (0 : Int) = 1; decide), fun v hv => ?_, ?_, ?_, fun k hk => absurd hk (Nat.not_lt_zero _), ?_⟩, fun k => (lo2 0 k (by omega)).1⟩
  · exact hC.fr (fun a k ha => (lo2 a k ha).2) (fun a k ha => (lo2 a k ha).1)
  · have c : v = 0 ∨ v = 1 ∨ v = 2 := by omega
    rcases c with rfl | rfl | rfl
    · exact Or.inr (Or.inl rfl)
    · exact Or.inr (Or.inr (Or.inl rfl))
    · exact Or.inr (Or.inr (Or.inr rfl))
  · have c : v = 0 ∨ v = 1 ∨ v = 2 := by omega
    rcases c with rfl | rfl | rfl <;> exact zz 274 _ 0 (by omega) (by omega) rfl
  · rw [(lo 28 9 (by omega)).1]; exact d8 9 0 rfl
  · rw [(lo 28 10 (by omega)).1]; exact d8 10 0 rfl
  · exact e10 0 3 0 (by omega) (hZ.1 3 (by omega))
  · exact e10 10 (13 * 3 + k) _ (by omega) (hZ.2.2 k hk)
  · exact e10 1 v 0 (by omega) (hZ.2.1 v hv)
  · exact e8 11 0 hI.2.1
  · exact e8 49 0 hI.2.2
  · exact e8 50 (-1) hI.1
theorem hp0_cn {L : Nat} {xs : Nat → Int32} : CN (hp0 L xs) := by
  refine ⟨fun k => rfl, fun k => rfl, fun i k hi => ?_, fun i hi => ?_, fun i hi => ?_⟩
  · show c0i xs (15 + i) k = _
    unfold c0i
    rw [if_neg (by omega), if_neg (by omega), if_neg (by omega), if_pos (by omega), show 15 + i - 15 = i by omega]
  · show c0i xs (3 + i) 1 = _
    unfold c0i
    rw [if_neg (by omega), if_neg (by omega), if_neg (by omega), if_neg (by omega)]
  · have c : i = 0 ∨ i = 1 ∨ i = 2 ∨ i = 3 ∨ i = 4 ∨ i = 5 ∨ i = 6 ∨ i = 7 ∨ i = 8 ∨ i = 9 ∨ i = 10 ∨ i = 11 := by omega
    rcases c with rfl | rfl | rfl | rfl | rfl | rfl | rfl | rfl | rfl | rfl | rfl | rfl <;> rfl
