/-! versions: keep and back -/
def oKeep (S : St) (v : Int) : St := if 0 ≤ v ∧ v ≤ 2 then (S.1, upf S.2.1 v.toNat S.1, upf S.2.2.1 v.toNat 1, S.2.2.2.1, S.2.2.2.2.1, S.2.2.2.2.2.1, S.2.2.2.2.2.2) else S
def aKeep (S : St) (v : Int) : Int := if 0 ≤ v ∧ v ≤ 2 then (S.1.1 : Int) else -1001
def oBack (S : St) (v : Int) : St := if (0 ≤ v ∧ v ≤ 2) ∧ S.2.2.1 v.toNat = 1 then wT S (S.2.1 v.toNat) else S
def aBack (S : St) (v : Int) : Int := if (0 ≤ v ∧ v ≤ 2) ∧ S.2.2.1 v.toNat = 1 then ((S.2.1 v.toNat).1 : Int) else -1001
theorem oKeep_ok {S : St} {v : Int} (ok : okS S) : okS (oKeep S v) := by
  unfold oKeep
  split
  · obtain ⟨h1, h2, h3, h4, h5, h6, h7⟩ := ok
    refine ⟨h1, fun u hu => ?_, fun u hu => ?_, h4, h5, fun u i hu hi => ?_, h7⟩
    · show okTx (upf S.2.1 v.toNat S.1 u)
      unfold upf
      split
      · exact h1
      · exact h2 u hu
    · show upf S.2.2.1 v.toNat 1 u = 0 ∨ upf S.2.2.1 v.toNat 1 u = 1
      unfold upf
      split
      · right; rfl
      · exact h3 u hu
    · have hi2 : i < (upf S.2.1 v.toNat S.1 u).1 := hi
      show (upf S.2.1 v.toNat S.1 u).2.1 0 i < (S.2.2.2.1 : Int)
      unfold upf at hi2 ⊢
      split
      · rename_i e
        rw [if_pos e] at hi2
        exact h5 i hi2
      · rename_i e
        rw [if_neg e] at hi2
        exact h6 u i hu hi2
  · exact ok
theorem oBack_ok {S : St} {v : Int} (ok : okS S) : okS (oBack S v) := by
  unfold oBack
  split
  · rename_i c
    exact wT_ok ok (ok.2.1 _ (by omega)) (fun i hi => ok.2.2.2.2.2.1 _ i (by omega) hi)
  · exact ok
set_option maxRecDepth 8000 in
theorem c_itBecome {h : Hp} {it ot n : Nat} (i0 : h.1[it]? = some (3, 8)) (i1 : h.1[it + 1]? = some (100, 20)) (i2 : h.1[it + 2]? = some (100, 20)) (i3 : h.1[it + 3]? = some (100, 20)) (o0 : h.1[ot]? = some (3, 8)) (o1 : h.1[ot + 1]? = some (100, 20)) (o2 : h.1[ot + 2]? = some (100, 20)) (o3 : h.1[ot + 3]? = some (100, 20)) (r0 : h.2.2.1 it 0 = some (it + 1)) (r1 : h.2.2.1 it 1 = some (it + 2)) (r2 : h.2.2.1 it 2 = some (it + 3)) (q0 : h.2.2.1 ot 0 = some (ot + 1)) (q1 : h.2.2.1 ot 1 = some (ot + 2)) (q2 : h.2.2.1 ot 2 = some (ot + 3)) (e7 : h.2.1 ot 7 = (n : Int)) (hn : n ≤ 20) (h28 : 28 ≤ it) (h29 : 28 ≤ ot) (hne : it + 3 < ot ∨ ot + 3 < it) : RN 120 0 [some (.inr (.inr (some (it)))), some (.inr (.inr (some (ot))))] [] h 0 0 (fun v h2 => Sm (fun a _ => it ≤ a ∧ a ≤ it + 3) h h2 ∧ (∀ f, f < 5 → h2.2.1 it (3 + f) = h.2.1 ot (3 + f)) ∧ (∀ g9 k : Nat, g9 < 3 → k < n → h2.2.1 (it + 1 + g9) k = h.2.1 (ot + 1 + g9) k) ∧ v = none) := by
  have hm : mrec 120 = some nM120 := rfl
  refine r_aload_n hm rfl (k := ?_)
  refine r_aload_n hm rfl (k := ?_)
  refine r_getI (hm := hm) (hf := rfl) (hd := rfl) (hs := (by first | assumption | exact g0 | exact g1 | exact g2 | exact g3 | exact u0 | exact u1 | exact u2 | exact u3 | exact (congrArg (fun z => z[_]?) SA.1).trans o0 | exact (congrArg (fun z => z[_]?) SA.1).trans i0)) (hv := rfl) (k := ?_)
  refine r_aload_n hm rfl (k := ?_)
  refine r_getI (hm := hm) (hf := rfl) (hd := rfl) (hs := (by first | assumption | exact g0 | exact g1 | exact g2 | exact g3 | exact u0 | exact u1 | exact u2 | exact u3 | exact (congrArg (fun z => z[_]?) SA.1).trans o0 | exact (congrArg (fun z => z[_]?) SA.1).trans i0)) (hv := rfl) (k := ?_)
  refine r_aload_n hm rfl (k := ?_)
  refine r_getI (hm := hm) (hf := rfl) (hd := rfl) (hs := (by first | assumption | exact g0 | exact g1 | exact g2 | exact g3 | exact u0 | exact u1 | exact u2 | exact u3 | exact (congrArg (fun z => z[_]?) SA.1).trans o0 | exact (congrArg (fun z => z[_]?) SA.1).trans i0)) (hv := rfl) (k := ?_)
  refine r_callv (j2 := 19) hm rfl rfl rfl rfl rfl rfl (by first | assumption | exact g0 | exact g1 | exact g2 | exact g3 | exact u0 | exact u1 | exact u2 | exact u3 | exact (congrArg (fun z => z[_]?) SA.1).trans o0 | exact (congrArg (fun z => z[_]?) SA.1).trans i0) (Nat.le_of_ble_eq_true rfl) (Nat.le_of_ble_eq_true rfl) rfl ⟨Nat.le_of_ble_eq_true rfl, Nat.le_of_ble_eq_true rfl, Nat.le_of_ble_eq_true rfl, Nat.le_of_ble_eq_true rfl, Nat.le_of_ble_eq_true rfl⟩ rfl (c_itBegin i0) (fun v9 hA p9 => ?_)
  obtain ⟨e1, e2⟩ := p9
  subst e2
  have SA : Sm (fun a _ => a = it) h hA := by rw [e1]; exact Sm.put (Sm.put (Sm.put (Sm.put (Sm.put Sm.refl rfl) rfl) rfl) rfl) rfl
  have f0 : hA.2.1 it 3 = h.2.1 ot 3 := by rw [e1]; simp (disch := omega) only [putI_fne, putI_feq, upf_ne, upf_eq]
  have f1 : hA.2.1 it 4 = h.2.1 ot 4 := by rw [e1]; simp (disch := omega) only [putI_fne, putI_feq, upf_ne, upf_eq]
  have f2 : hA.2.1 it 5 = h.2.1 ot 5 := by rw [e1]; simp (disch := omega) only [putI_fne, putI_feq, upf_ne, upf_eq]
  clear e1
  change RN 120 16 _ _ _ 0 0 _
  dsimp only [Option.toList, List.nil_append]
  refine r_aload_n hm rfl (k := ?_)
  refine r_aload_n hm rfl (k := ?_)
  refine r_getI (hm := hm) (hf := rfl) (hd := rfl) (hs := (by first | assumption | exact g0 | exact g1 | exact g2 | exact g3 | exact u0 | exact u1 | exact u2 | exact u3 | exact (congrArg (fun z => z[_]?) SA.1).trans o0 | exact (congrArg (fun z => z[_]?) SA.1).trans i0)) (hv := (SA.2.2 _ _ (by omega))) (k := ?_)
  refine r_putI (hm := hm) (hf := rfl) (hd := rfl) (hs := (by first | assumption | exact g0 | exact g1 | exact g2 | exact g3 | exact u0 | exact u1 | exact u2 | exact u3 | exact (congrArg (fun z => z[_]?) SA.1).trans o0 | exact (congrArg (fun z => z[_]?) SA.1).trans i0)) (hfin := Or.inl rfl) (hz := fun q9 => absurd q9 (by decide)) (k := ?_)
  refine r_aload_n hm rfl (k := ?_)
  refine r_aload_n hm rfl (k := ?_)
  refine r_getI (hm := hm) (hf := rfl) (hd := rfl) (hs := (by first | assumption | exact g0 | exact g1 | exact g2 | exact g3 | exact u0 | exact u1 | exact u2 | exact u3 | exact (congrArg (fun z => z[_]?) SA.1).trans o0 | exact (congrArg (fun z => z[_]?) SA.1).trans i0)) (hv := ((putI_ne (by omega)).trans ((SA.2.2 _ _ (by omega)).trans e7))) (k := ?_)
  refine r_putI (hm := hm) (hf := rfl) (hd := rfl) (hs := (by first | assumption | exact g0 | exact g1 | exact g2 | exact g3 | exact u0 | exact u1 | exact u2 | exact u3 | exact (congrArg (fun z => z[_]?) SA.1).trans o0 | exact (congrArg (fun z => z[_]?) SA.1).trans i0)) (hfin := Or.inl rfl) (hz := fun q9 => absurd q9 (by decide)) (k := ?_)
  refine RN.abs (fun h1 => Sm (fun a _ => it ≤ a ∧ a ≤ it + 3) h h1 ∧ (∀ f, f < 5 → h1.2.1 it (3 + f) = h.2.1 ot (3 + f)) ∧ (∀ g9 k : Nat, g9 < 3 → k < 20 → h1.2.1 (ot + 1 + g9) k = h.2.1 (ot + 1 + g9) k)) ⟨(Sm.put (Sm.put SA rfl) rfl).mono (fun a k z => by omega), fun f hf => ?_, fun g9 k hg9 hk => ?_⟩ (fun h1 H9 => ?_)
  · have : f = 0 ∨ f = 1 ∨ f = 2 ∨ f = 3 ∨ f = 4 := by omega
    rcases this with rfl | rfl | rfl | rfl | rfl
    · rw [putI_ne (by omega), putI_ne (by omega)]; exact f0
    · rw [putI_ne (by omega), putI_ne (by omega)]; exact f1
    · rw [putI_ne (by omega), putI_ne (by omega)]; exact f2
    · rw [putI_ne (by omega)]; exact putI_eq
    · exact putI_eq.trans e7.symm
  · rw [putI_ne (by omega), putI_ne (by omega)]; exact SA.2.2 _ _ (by omega)
  clear SA f0 f1 f2
  obtain ⟨S1, eF, eO⟩ := H9
  have e47 : h1.2.1 it 7 = (n : Int) := (eF 4 (by omega)).trans e7
  have g0 := (congrArg (fun z => z[it]?) S1.1).trans i0
  have g1 := (congrArg (fun z => z[it + 1]?) S1.1).trans i1
  have g2 := (congrArg (fun z => z[it + 2]?) S1.1).trans i2
  have g3 := (congrArg (fun z => z[it + 3]?) S1.1).trans i3
  have u0 := (congrArg (fun z => z[ot]?) S1.1).trans o0
  have u1 := (congrArg (fun z => z[ot + 1]?) S1.1).trans o1
  have u2 := (congrArg (fun z => z[ot + 2]?) S1.1).trans o2
  have u3 := (congrArg (fun z => z[ot + 3]?) S1.1).trans o3
  have rr := fun a k => congrFun (congrFun (congrArg (fun z => z.1) S1.2.1) a) k
  refine r_aload_n hm rfl (k := ?_)
  refine r_getR (hm := hm) (hf := rfl) (hd := rfl) (hs := (by first | assumption | exact g0 | exact g1 | exact g2 | exact g3 | exact u0 | exact u1 | exact u2 | exact u3 | exact (congrArg (fun z => z[_]?) SA.1).trans o0 | exact (congrArg (fun z => z[_]?) SA.1).trans i0)) (hv := ((rr _ _).trans q0)) (k := ?_)
  refine r_iconst hm rfl (k := ?_)
  refine r_aload_n hm rfl (k := ?_)
  refine r_getR (hm := hm) (hf := rfl) (hd := rfl) (hs := (by first | assumption | exact g0 | exact g1 | exact g2 | exact g3 | exact u0 | exact u1 | exact u2 | exact u3 | exact (congrArg (fun z => z[_]?) SA.1).trans o0 | exact (congrArg (fun z => z[_]?) SA.1).trans i0)) (hv := ((rr _ _).trans r0)) (k := ?_)
  refine r_iconst hm rfl (k := ?_)
  refine r_aload_n hm rfl (k := ?_)
  refine r_getI (hm := hm) (hf := rfl) (hd := rfl) (hs := (by first | assumption | exact g0 | exact g1 | exact g2 | exact g3 | exact u0 | exact u1 | exact u2 | exact u3 | exact (congrArg (fun z => z[_]?) SA.1).trans o0 | exact (congrArg (fun z => z[_]?) SA.1).trans i0)) (hv := e47) (k := ?_)
  refine r_copy hm rfl rfl rfl rfl (by decide) (Nat.le_of_ble_eq_true rfl) (by omega) (by omega) (by omega) (by omega) (by omega) (by first | assumption | exact g0 | exact g1 | exact g2 | exact g3 | exact u0 | exact u1 | exact u2 | exact u3 | exact (congrArg (fun z => z[_]?) SA.1).trans o0 | exact (congrArg (fun z => z[_]?) SA.1).trans i0) (by first | assumption | exact g0 | exact g1 | exact g2 | exact g3 | exact u0 | exact u1 | exact u2 | exact u3 | exact (congrArg (fun z => z[_]?) SA.1).trans o0 | exact (congrArg (fun z => z[_]?) SA.1).trans i0) (by omega) (by omega) ?_
  refine RN.abs (fun h2 => Sm (fun a _ => it ≤ a ∧ a ≤ it + 3) h h2 ∧ (∀ f, f < 5 → h2.2.1 it (3 + f) = h.2.1 ot (3 + f)) ∧ (∀ g9 k : Nat, g9 < 3 → k < 20 → h2.2.1 (ot + 1 + g9) k = h.2.1 (ot + 1 + g9) k) ∧ (∀ g9 k : Nat, g9 < 1 → k < n → h2.2.1 (it + 1 + g9) k = h.2.1 (ot + 1 + g9) k)) ⟨S1.trans ((cpy_sm (b := it + 1)).mono (fun a k z => by omega)), fun f hf => ((cpy_sm (b := it + 1)).2.2 _ _ (by omega)).trans (eF f hf), fun g9 k hg9 hk => ((cpy_sm (b := it + 1)).2.2 _ _ (by omega)).trans (eO g9 k hg9 hk), fun g9 k hg9 hk => ?_⟩ (fun h1 H9 => ?_)
  · by_cases eg : g9 = 0
    · subst eg
      exact (cpy_at (by omega)).trans (eO 0 k (by omega) (by omega))
    · exact ((cpy_sm (b := it + 1)).2.2 _ _ (by omega)).trans (absurd hg9 (by omega))
  clear S1 eF eO e47 g0 g1 g2 g3 u0 u1 u2 u3 rr
  obtain ⟨S1, eF, eO, eI⟩ := H9
  have e47 : h1.2.1 it 7 = (n : Int) := (eF 4 (by omega)).trans e7
  have g0 := (congrArg (fun z => z[it]?) S1.1).trans i0
  have g1 := (congrArg (fun z => z[it + 1]?) S1.1).trans i1
  have g2 := (congrArg (fun z => z[it + 2]?) S1.1).trans i2
  have g3 := (congrArg (fun z => z[it + 3]?) S1.1).trans i3
  have u0 := (congrArg (fun z => z[ot]?) S1.1).trans o0
  have u1 := (congrArg (fun z => z[ot + 1]?) S1.1).trans o1
  have u2 := (congrArg (fun z => z[ot + 2]?) S1.1).trans o2
  have u3 := (congrArg (fun z => z[ot + 3]?) S1.1).trans o3
  have rr := fun a k => congrFun (congrFun (congrArg (fun z => z.1) S1.2.1) a) k
  refine r_aload_n hm rfl (k := ?_)
  refine r_getR (hm := hm) (hf := rfl) (hd := rfl) (hs := (by first | assumption | exact g0 | exact g1 | exact g2 | exact g3 | exact u0 | exact u1 | exact u2 | exact u3 | exact (congrArg (fun z => z[_]?) SA.1).trans o0 | exact (congrArg (fun z => z[_]?) SA.1).trans i0)) (hv := ((rr _ _).trans q1)) (k := ?_)
  refine r_iconst hm rfl (k := ?_)
  refine r_aload_n hm rfl (k := ?_)
  refine r_getR (hm := hm) (hf := rfl) (hd := rfl) (hs := (by first | assumption | exact g0 | exact g1 | exact g2 | exact g3 | exact u0 | exact u1 | exact u2 | exact u3 | exact (congrArg (fun z => z[_]?) SA.1).trans o0 | exact (congrArg (fun z => z[_]?) SA.1).trans i0)) (hv := ((rr _ _).trans r1)) (k := ?_)
  refine r_iconst hm rfl (k := ?_)
  refine r_aload_n hm rfl (k := ?_)
  refine r_getI (hm := hm) (hf := rfl) (hd := rfl) (hs := (by first | assumption | exact g0 | exact g1 | exact g2 | exact g3 | exact u0 | exact u1 | exact u2 | exact u3 | exact (congrArg (fun z => z[_]?) SA.1).trans o0 | exact (congrArg (fun z => z[_]?) SA.1).trans i0)) (hv := e47) (k := ?_)
  refine r_copy hm rfl rfl rfl rfl (by decide) (Nat.le_of_ble_eq_true rfl) (by omega) (by omega) (by omega) (by omega) (by omega) (by first | assumption | exact g0 | exact g1 | exact g2 | exact g3 | exact u0 | exact u1 | exact u2 | exact u3 | exact (congrArg (fun z => z[_]?) SA.1).trans o0 | exact (congrArg (fun z => z[_]?) SA.1).trans i0) (by first | assumption | exact g0 | exact g1 | exact g2 | exact g3 | exact u0 | exact u1 | exact u2 | exact u3 | exact (congrArg (fun z => z[_]?) SA.1).trans o0 | exact (congrArg (fun z => z[_]?) SA.1).trans i0) (by omega) (by omega) ?_
  refine RN.abs (fun h2 => Sm (fun a _ => it ≤ a ∧ a ≤ it + 3) h h2 ∧ (∀ f, f < 5 → h2.2.1 it (3 + f) = h.2.1 ot (3 + f)) ∧ (∀ g9 k : Nat, g9 < 3 → k < 20 → h2.2.1 (ot + 1 + g9) k = h.2.1 (ot + 1 + g9) k) ∧ (∀ g9 k : Nat, g9 < 2 → k < n → h2.2.1 (it + 1 + g9) k = h.2.1 (ot + 1 + g9) k)) ⟨S1.trans ((cpy_sm (b := it + 2)).mono (fun a k z => by omega)), fun f hf => ((cpy_sm (b := it + 2)).2.2 _ _ (by omega)).trans (eF f hf), fun g9 k hg9 hk => ((cpy_sm (b := it + 2)).2.2 _ _ (by omega)).trans (eO g9 k hg9 hk), fun g9 k hg9 hk => ?_⟩ (fun h1 H9 => ?_)
  · by_cases eg : g9 = 1
    · subst eg
      exact (cpy_at (by omega)).trans (eO 1 k (by omega) (by omega))
    · exact ((cpy_sm (b := it + 2)).2.2 _ _ (by omega)).trans (eI g9 k (by omega) hk)
  clear S1 eF eO e47 g0 g1 g2 g3 u0 u1 u2 u3 rr eI
  obtain ⟨S1, eF, eO, eI⟩ := H9
  have e47 : h1.2.1 it 7 = (n : Int) := (eF 4 (by omega)).trans e7
  have g0 := (congrArg (fun z => z[it]?) S1.1).trans i0
  have g1 := (congrArg (fun z => z[it + 1]?) S1.1).trans i1
  have g2 := (congrArg (fun z => z[it + 2]?) S1.1).trans i2
  have g3 := (congrArg (fun z => z[it + 3]?) S1.1).trans i3
  have u0 := (congrArg (fun z => z[ot]?) S1.1).trans o0
  have u1 := (congrArg (fun z => z[ot + 1]?) S1.1).trans o1
  have u2 := (congrArg (fun z => z[ot + 2]?) S1.1).trans o2
  have u3 := (congrArg (fun z => z[ot + 3]?) S1.1).trans o3
  have rr := fun a k => congrFun (congrFun (congrArg (fun z => z.1) S1.2.1) a) k
  refine r_aload_n hm rfl (k := ?_)
  refine r_getR (hm := hm) (hf := rfl) (hd := rfl) (hs := (by first | assumption | exact g0 | exact g1 | exact g2 | exact g3 | exact u0 | exact u1 | exact u2 | exact u3 | exact (congrArg (fun z => z[_]?) SA.1).trans o0 | exact (congrArg (fun z => z[_]?) SA.1).trans i0)) (hv := ((rr _ _).trans q2)) (k := ?_)
  refine r_iconst hm rfl (k := ?_)
  refine r_aload_n hm rfl (k := ?_)
  refine r_getR (hm := hm) (hf := rfl) (hd := rfl) (hs := (by first | assumption | exact g0 | exact g1 | exact g2 | exact g3 | exact u0 | exact u1 | exact u2 | exact u3 | exact (congrArg (fun z => z[_]?) SA.1).trans o0 | exact (congrArg (fun z => z[_]?) SA.1).trans i0)) (hv := ((rr _ _).trans r2)) (k := ?_)
  refine r_iconst hm rfl (k := ?_)
  refine r_aload_n hm rfl (k := ?_)
  refine r_getI (hm := hm) (hf := rfl) (hd := rfl) (hs := (by first | assumption | exact g0 | exact g1 | exact g2 | exact g3 | exact u0 | exact u1 | exact u2 | exact u3 | exact (congrArg (fun z => z[_]?) SA.1).trans o0 | exact (congrArg (fun z => z[_]?) SA.1).trans i0)) (hv := e47) (k := ?_)
  refine r_copy hm rfl rfl rfl rfl (by decide) (Nat.le_of_ble_eq_true rfl) (by omega) (by omega) (by omega) (by omega) (by omega) (by first | assumption | exact g0 | exact g1 | exact g2 | exact g3 | exact u0 | exact u1 | exact u2 | exact u3 | exact (congrArg (fun z => z[_]?) SA.1).trans o0 | exact (congrArg (fun z => z[_]?) SA.1).trans i0) (by first | assumption | exact g0 | exact g1 | exact g2 | exact g3 | exact u0 | exact u1 | exact u2 | exact u3 | exact (congrArg (fun z => z[_]?) SA.1).trans o0 | exact (congrArg (fun z => z[_]?) SA.1).trans i0) (by omega) (by omega) ?_
  refine RN.abs (fun h2 => Sm (fun a _ => it ≤ a ∧ a ≤ it + 3) h h2 ∧ (∀ f, f < 5 → h2.2.1 it (3 + f) = h.2.1 ot (3 + f)) ∧ (∀ g9 k : Nat, g9 < 3 → k < 20 → h2.2.1 (ot + 1 + g9) k = h.2.1 (ot + 1 + g9) k) ∧ (∀ g9 k : Nat, g9 < 3 → k < n → h2.2.1 (it + 1 + g9) k = h.2.1 (ot + 1 + g9) k)) ⟨S1.trans ((cpy_sm (b := it + 3)).mono (fun a k z => by omega)), fun f hf => ((cpy_sm (b := it + 3)).2.2 _ _ (by omega)).trans (eF f hf), fun g9 k hg9 hk => ((cpy_sm (b := it + 3)).2.2 _ _ (by omega)).trans (eO g9 k hg9 hk), fun g9 k hg9 hk => ?_⟩ (fun h1 H9 => ?_)
  · by_cases eg : g9 = 2
    · subst eg
      exact (cpy_at (by omega)).trans (eO 2 k (by omega) (by omega))
    · exact ((cpy_sm (b := it + 3)).2.2 _ _ (by omega)).trans (eI g9 k (by omega) hk)
  clear S1 eF eO e47 g0 g1 g2 g3 u0 u1 u2 u3 rr eI
  obtain ⟨S1, eF, eO, eI⟩ := H9
  have e47 : h1.2.1 it 7 = (n : Int) := (eF 4 (by omega)).trans e7
  have g0 := (congrArg (fun z => z[it]?) S1.1).trans i0
  have g1 := (congrArg (fun z => z[it + 1]?) S1.1).trans i1
  have g2 := (congrArg (fun z => z[it + 2]?) S1.1).trans i2
  have g3 := (congrArg (fun z => z[it + 3]?) S1.1).trans i3
  have u0 := (congrArg (fun z => z[ot]?) S1.1).trans o0
  have u1 := (congrArg (fun z => z[ot + 1]?) S1.1).trans o1
  have u2 := (congrArg (fun z => z[ot + 2]?) S1.1).trans o2
  have u3 := (congrArg (fun z => z[ot + 3]?) S1.1).trans o3
  have rr := fun a k => congrFun (congrFun (congrArg (fun z => z.1) S1.2.1) a) k
  refine r_return hm rfl rfl (Nat.le_of_ble_eq_true rfl) (Nat.le_of_ble_eq_true rfl) ?_
  exact ⟨S1, eF, eI, rfl⟩
theorem c_styBecome {h : Hp} {s1 s2 : Nat} (a1 : h.1[s1]? = some (2, 1)) (a2 : h.1[s1 + 1]? = some (100, 13)) (a3 : h.2.2.1 s1 0 = some (s1 + 1)) (b1 : h.1[s2]? = some (2, 1)) (b2 : h.1[s2 + 1]? = some (100, 13)) (b3 : h.2.2.1 s2 0 = some (s2 + 1)) (h28 : 28 ≤ s1) (h29 : 28 ≤ s2) : RN 121 0 [some (.inr (.inr (some (s1)))), some (.inr (.inr (some (s2))))] [] h 0 0 (fun v h2 => h2 = cpyI h (s2 + 1) (s1 + 1) 0 0 13 ∧ v = none) := by
  have hm : mrec 121 = some nM121 := rfl
  refine r_aload_n hm rfl (k := ?_)
  refine r_getR (hm := hm) (hf := rfl) (hd := rfl) (hs := (by first | assumption)) (hv := (by first | assumption)) (k := ?_)
  refine r_iconst hm rfl (k := ?_)
  refine r_aload_n hm rfl (k := ?_)
  refine r_getR (hm := hm) (hf := rfl) (hd := rfl) (hs := (by first | assumption)) (hv := (by first | assumption)) (k := ?_)
  refine r_iconst hm rfl (k := ?_)
  refine r_bipush hm rfl (k := ?_)
  refine r_copy hm rfl rfl rfl rfl (by decide) (Nat.le_of_ble_eq_true rfl) (by omega) (by omega) (by omega) (by omega) (by omega) (by first | assumption) (by first | assumption) (by omega) (by omega) ?_
  refine r_return hm rfl rfl (Nat.le_of_ble_eq_true rfl) (Nat.le_of_ble_eq_true rfl) ?_
  exact ⟨rfl, rfl⟩
set_option maxHeartbeats 4000000 in
set_option maxRecDepth 8000 in
theorem c_become {L : Nat} {h : Hp} {t u : Nat} {x y : Tx} (g : GG L h) (ht : isT t) (hu : isT u) (hne : t + 244 ≤ u ∨ u + 244 ≤ t) (RQ : RepQ h t y) (hR : RepC h u x) (hok : okTx x) : RN 119 0 [some (.inr (.inr (some (t)))), some (.inr (.inr (some (u)))), none] [] h 0 0 (fun v h2 => Sm (fun a _ => t ≤ a ∧ a < t + 244) h h2 ∧ RepC h2 t x ∧ v = none) := by
  have hm : mrec 119 = some nM119 := rfl
  have n60 := hok.1
  have t28 : 28 ≤ t := by rcases ht with rfl | rfl | rfl | rfl <;> omega
  have u28 : 28 ≤ u := by rcases hu with rfl | rfl | rfl | rfl <;> omega
  obtain ⟨T1, T2, T3, T4, T5, T6, T7⟩ := g.tx ht
  obtain ⟨U1, U2, U3, U4, U5, U6, U7⟩ := g.tx hu
  refine r_aload_n hm rfl (k := ?_)
  refine r_aload_n hm rfl (k := ?_)
  refine r_getI (hm := hm) (hf := rfl) (hd := rfl) (hs := (by first | assumption | exact (Gi _ (by omega)).1)) (hv := (by first | assumption | exact e2 | exact T5 | exact U5 | exact T6 | exact U6 | exact hR.1 | exact (rr _ _).trans (Ii _ (by omega)) | exact (rr _ _).trans (Iu _ (by omega)))) (k := ?_)
  refine r_putI (hm := hm) (hf := rfl) (hd := rfl) (hs := (by first | assumption | exact (Gi _ (by omega)).1)) (hfin := Or.inl rfl) (hz := fun q9 => absurd q9 (by decide)) (k := ?_)
  refine r_iconst hm rfl (k := ?_)
  refine r_istore_n hm rfl (k := ?_)
  suffices LP : ∀ (d i : Nat) (h1 : Hp), i + d = x.1 → Sm (fun a _ => t ≤ a ∧ a < t + 244) h h1 → h1.2.1 t 2 = (x.1 : Int) → (∀ f q, f < 5 → q < i → h1.2.1 (itm h t q) (3 + f) = x.2.1 f q) → (∀ g9 q k : Nat, g9 < 3 → q < i → (k : Int) < x.2.1 4 q → h1.2.1 (itm h t q + 1 + g9) k = x.2.2.1 g9 q k) → RN 119 10 [some (.inr (.inr (some (t)))), some (.inr (.inr (some (u)))), some (.inl (i : Int))] [] h1 0 0 (fun v h2 => Sm (fun a _ => t ≤ a ∧ a < t + 244) h h2 ∧ RepC h2 t x ∧ v = none) from LP x.1 0 _ (by omega) (Sm.put Sm.refl (by omega)) putI_eq (fun f q hf hq => by omega) (fun g9 q k hg9 hq => by omega)
  clear T1 T2 T3 T4 T5 T6 T7 U1 U2 U3 U4 U5 U6 U7
  refine fun d => Nat.strongRecOn d (fun d ih => ?_)
  intro i h1 hd S1 e2 eF eP
  have g1 := S1.gg g
  obtain ⟨T1, T2, T3, T4, T5, T6, T7⟩ := g1.tx ht
  obtain ⟨U1, U2, U3, U4, U5, U6, U7⟩ := g1.tx hu
  have hU := S1.repC (fun a k z => by omega) hR
  have Ii := fun q (hq : q < 60) => (RQ.2.1 q hq).1
  have Gi := fun q (hq : q < 60) => g1.it ht (RQ.2.1 q hq).2
  have Iu := fun q (hq : q < 60) => (hR.2.2.1 q hq).1
  have Gu := fun q (hq : q < 60) => g1.it hu (hR.2.2.1 q hq).2
  have rr := fun a k => congrFun (congrFun (congrArg (fun z => z.1) S1.2.1) a) k
  refine r_iload_n hm rfl (k := ?_)
  refine r_aload_n hm rfl (k := ?_)
  refine r_getI (hm := hm) (hf := rfl) (hd := rfl) (hs := (by first | assumption | exact (Gi _ (by omega)).1)) (hv := (by first | assumption | exact e2 | exact T5 | exact U5 | exact T6 | exact U6 | exact hR.1 | exact (rr _ _).trans (Ii _ (by omega)) | exact (rr _ _).trans (Iu _ (by omega)))) (k := ?_)
  refine r_icmp_ge (t := 39) hm rfl rfl (fun c15 => ?_) (fun c15 => ?_)
  · refine r_aload_n hm rfl (k := ?_)
    refine r_getR (hm := hm) (hf := rfl) (hd := rfl) (hs := (by first | assumption | exact (Gi _ (by omega)).1)) (hv := (by first | assumption | exact e2 | exact T5 | exact U5 | exact T6 | exact U6 | exact hR.1 | exact (rr _ _).trans (Ii _ (by omega)) | exact (rr _ _).trans (Iu _ (by omega)))) (k := ?_)
    refine r_aload_n hm rfl (k := ?_)
    refine r_getR (hm := hm) (hf := rfl) (hd := rfl) (hs := (by first | assumption | exact (Gi _ (by omega)).1)) (hv := (by first | assumption | exact e2 | exact T5 | exact U5 | exact T6 | exact U6 | exact hR.1 | exact (rr _ _).trans (Ii _ (by omega)) | exact (rr _ _).trans (Iu _ (by omega)))) (k := ?_)
    refine r_callv (j2 := 121) hm rfl rfl rfl rfl rfl rfl (by first | assumption | exact (Gi _ (by omega)).1) (Nat.le_of_ble_eq_true rfl) (Nat.le_of_ble_eq_true rfl) rfl ⟨Nat.le_of_ble_eq_true rfl, Nat.le_of_ble_eq_true rfl, Nat.le_of_ble_eq_true rfl, Nat.le_of_ble_eq_true rfl, Nat.le_of_ble_eq_true rfl⟩ rfl (c_styBecome (s1 := t + 2) (s2 := u + 2) T3 T4 T7 U3 U4 U7 (by omega) (by omega)) (fun v9 h9 p9 => ?_)
    obtain ⟨e1, e9⟩ := p9
    subst e9
    have SC : Sm (fun a _ => a = t + 3) h1 h9 := by rw [e1]; exact cpy_sm
    have eC : ∀ k, k < 13 → h9.2.1 (t + 3) k = x.2.2.2 k := fun k hk => by rw [e1]; exact (cpy_at (b := t + 3) hk).trans (hU.2.2.2.2.2.2 k hk)
    change RN 119 50 _ _ _ 0 0 _
    dsimp only [Option.toList, List.nil_append]
    refine r_return hm rfl rfl (Nat.le_of_ble_eq_true rfl) (Nat.le_of_ble_eq_true rfl) ?_
    have ei : i = x.1 := by omega
    subst ei
    have rT := fun q (hq : q < 60) => itm_rng RQ hq
    refine ⟨S1.trans (SC.mono (fun a k z => by omega)), ⟨(SC.2.2 _ _ (by omega)).trans e2, ?_⟩, rfl⟩
    exact RepQ.ch RQ hok.1 (fun q => by rw [SC.2.1, S1.2.1]) (fun f q hf hq => by have := rT q (Nat.lt_of_lt_of_le hq hok.1); exact (SC.2.2 _ _ (by omega)).trans (eF f q hf hq)) (fun f q k hf hq hk => by have := rT q (Nat.lt_of_lt_of_le hq hok.1); exact (SC.2.2 _ _ (by omega)).trans (eP f q k hf hq hk)) eC
  · have hi2 : i < x.1 := by omega
    obtain ⟨n, en⟩ := Int.eq_ofNat_of_zero_le (show 0 ≤ x.2.1 4 i by have := hok.2.1 i hi2; unfold okIt at this; omega)
    have n20 : n ≤ 20 := by have := hok.2.1 i hi2; unfold okIt at this; omega
    have si := itm_rng RQ (i := i) (by omega)
    have su := itm_rng (hR.2 : RepQ h u x) (i := i) (by omega)
    have eu : ∀ k, h1.2.1 (itm h u i) k = h.2.1 (itm h u i) k := fun k => S1.2.2 _ _ (by omega)
    have ei := Gi i (by omega)
    have eo := Gu i (by omega)
    have qB := c_itBecome (h := h1) (it := itm h t i) (ot := itm h u i) (n := n) ei.1 ei.2.1 ei.2.2.1 ei.2.2.2.1 eo.1 eo.2.1 eo.2.2.1 eo.2.2.2.1 ei.2.2.2.2.1 ei.2.2.2.2.2.1 ei.2.2.2.2.2.2.1 eo.2.2.2.2.1 eo.2.2.2.2.2.1 eo.2.2.2.2.2.2.1 ((eu 7).trans ((hR.2.2.2.2.1 4 i (by omega) hi2).trans en)) n20 ei.2.2.2.2.2.2.2 eo.2.2.2.2.2.2.2 (by omega)
    refine r_aload_n hm rfl (k := ?_)
    refine r_getR (hm := hm) (hf := rfl) (hd := rfl) (hs := (by first | assumption | exact (Gi _ (by omega)).1)) (hv := (by first | assumption | exact e2 | exact T5 | exact U5 | exact T6 | exact U6 | exact hR.1 | exact (rr _ _).trans (Ii _ (by omega)) | exact (rr _ _).trans (Iu _ (by omega)))) (k := ?_)
    refine r_iload_n hm rfl (k := ?_)
    refine r_aald (hm := hm) (hf := rfl) (hs := (by first | assumption | exact (Gi _ (by omega)).1)) (hkd := by decide) (hi := rfl) (hn := (by omega)) (hv := (by first | assumption | exact e2 | exact T5 | exact U5 | exact T6 | exact U6 | exact hR.1 | exact (rr _ _).trans (Ii _ (by omega)) | exact (rr _ _).trans (Iu _ (by omega)))) (k := ?_)
    refine r_aload_n hm rfl (k := ?_)
    refine r_getR (hm := hm) (hf := rfl) (hd := rfl) (hs := (by first | assumption | exact (Gi _ (by omega)).1)) (hv := (by first | assumption | exact e2 | exact T5 | exact U5 | exact T6 | exact U6 | exact hR.1 | exact (rr _ _).trans (Ii _ (by omega)) | exact (rr _ _).trans (Iu _ (by omega)))) (k := ?_)
    refine r_iload_n hm rfl (k := ?_)
    refine r_aald (hm := hm) (hf := rfl) (hs := (by first | assumption | exact (Gi _ (by omega)).1)) (hkd := by decide) (hi := rfl) (hn := (by omega)) (hv := (by first | assumption | exact e2 | exact T5 | exact U5 | exact T6 | exact U6 | exact hR.1 | exact (rr _ _).trans (Ii _ (by omega)) | exact (rr _ _).trans (Iu _ (by omega)))) (k := ?_)
    refine r_callv (j2 := 120) hm rfl rfl rfl rfl rfl rfl (by first | assumption | exact (Gi _ (by omega)).1) (Nat.le_of_ble_eq_true rfl) (Nat.le_of_ble_eq_true rfl) rfl ⟨Nat.le_of_ble_eq_true rfl, Nat.le_of_ble_eq_true rfl, Nat.le_of_ble_eq_true rfl, Nat.le_of_ble_eq_true rfl, Nat.le_of_ble_eq_true rfl⟩ rfl (qB) (fun v9 hB p9 => ?_)
    obtain ⟨SB, bF, bP, e1⟩ := p9
    subst e1
    change RN 119 33 _ _ _ 0 0 _
    dsimp only [Option.toList, List.nil_append]
    refine r_iinc hm rfl (hr := (by omega)) (k := ?_)
    refine r_goto (t := 10) hm rfl (k := ?_)
    refine ih (d - 1) (by omega) (i + 1) hB (by omega) (S1.trans (SB.mono (fun a k z => by omega))) ((SB.2.2 _ _ (by omega)).trans e2) (fun f q hf hq => ?_) (fun g9 q k hg9 hq hk => ?_)
    · by_cases eq9 : q = i
      · subst eq9
        exact (bF f hf).trans ((eu _).trans (hR.2.2.2.2.1 f q hf hi2))
      · have := itm_sep RQ (i := q) (j := i) (by omega) (by omega) eq9
        exact (SB.2.2 _ _ (by omega)).trans (eF f q hf (by omega))
    · by_cases eq9 : q = i
      · subst eq9
        exact (bP g9 k hg9 (by omega)).trans ((S1.2.2 _ _ (by omega)).trans (hR.2.2.2.2.2.1 g9 q k hg9 hi2 hk))
      · have := itm_sep RQ (i := q) (j := i) (by omega) (by omega) eq9
        exact (SB.2.2 _ _ (by omega)).trans (eP g9 q k hg9 (by omega) hk)
