/-! new cells -/
/-- h2 goes on from h: more cells, the old ones as they were -/
def Ext (h h2 : Hp) (ad ad2 : Nat → Nat) (xs : List (Nat × Nat)) : Prop := h2.1 = h.1 ++ xs ∧ (∀ b i, b < h.1.length → h2.2.1 b i = h.2.1 b i ∧ h2.2.2.1 b i = h.2.2.1 b i ∧ h2.2.2.2 b i = h.2.2.2 b i) ∧ ∀ b, b < h.1.length → ad2 b = ad b
theorem cv_ext {ad ad2 : Nat → Nat} {fo : Option Nat} {n : Nat} {v : Vl} (ha : ∀ b, b < n → ad2 b = ad b) (hv : okV n v) : cv ad2 fo v = cv ad fo v := by
  rcases v with z | x | r
  · rfl
  · rfl
  · cases r with
    | none => rfl
    | some a =>
      show (if a = 27 then va_rf fo else Value.ref (ad2 a)) = if a = 27 then va_rf fo else Value.ref (ad a)
      rw [ha a (hv a rfl)]
theorem cvs_ext {ad ad2 : Nat → Nat} {fo : Option Nat} {n : Nat} {st : List Vl} (ha : ∀ b, b < n → ad2 b = ad b) (hv : okSt n st) : st.map (cv ad2 fo) = st.map (cv ad fo) := List.map_congr_left fun v h => cv_ext ha (hv v h)
theorem cvL_ext {ad ad2 : Nat → Nat} {fo : Option Nat} {n : Nat} {ls : Lc} (ha : ∀ b, b < n → ad2 b = ad b) (hv : okLs n ls) : ∀ q ∈ cvL ad2 fo ls, q ∈ cvL ad fo ls := by
  intro q hq
  obtain ⟨v, h1, h2⟩ := mem_cvL.mp hq
  exact mem_cvL.mpr ⟨v, h1, by rw [h2, cv_ext ha (hv.get h1)]⟩
theorem okV.mono {n n2 : Nat} {v : Vl} (h : okV n v) (hn : n ≤ n2) : okV n2 v := by
  rcases v with z | x | r
  · exact h
  · trivial
  · exact fun a ha => Nat.lt_of_lt_of_le (h a ha) hn
theorem okSt.mono {n n2 : Nat} {st : List Vl} (h : okSt n st) (hn : n ≤ n2) : okSt n2 st := fun v hv => (h v hv).mono hn
theorem okLs.mono {n n2 : Nat} {ls : Lc} (h : okLs n ls) (hn : n ≤ n2) : okLs n2 ls := fun v hv => (h v hv).mono hn
theorem rmap_ext {ad ad2 : Nat → Nat} {n : Nat} {r : Option Nat} (ha : ∀ b, b < n → ad2 b = ad b) (hr : ∀ b, r = some b → b < n) : r.map ad2 = r.map ad := by
  cases r with
  | none => rfl
  | some b => show some (ad2 b) = some (ad b); rw [ha b (hr b rfl)]
theorem enc_ext {E : Nat → ClassId} {h h2 : Hp} {ad ad2 : Nat → Nat} {xs : List (Nat × Nat)} (he : Ext h h2 ad ad2 xs) (ho : okH h) {b : Nat} (hb : b < h.1.length) : enc E ad2 h2 b = enc E ad h b := by
  obtain ⟨e1, e2, e3⟩ := he
  have hs : h2.1[b]? = h.1[b]? := by rw [e1, List.getElem?_append_left hb]
  have hr : ∀ i, (h.2.2.1 b i).map ad2 = (h.2.2.1 b i).map ad := fun i => rmap_ext e3 (fun x hx => (ho.2.2.1 b i x hx).1)
  have h3 : enc E ad2 h2 b = enc E ad2 h b := enc_ne hs (fun i => (e2 b i hb).1) (fun i => (e2 b i hb).2.1) (fun i => (e2 b i hb).2.2)
  rw [h3]
  unfold enc nfs nfv
  simp only [hr]
theorem nWs_ext {E : Nat → ClassId} {h h2 : Hp} {ad ad2 : Nat → Nat} {xs : List (Nat × Nat)} (he : Ext h h2 ad ad2 xs) (ho : okH h) : nWs E ad2 h2 = nWs E ad h ++ (List.range xs.length).map (fun k => (ad2 (h.1.length + k), enc E ad2 h2 (h.1.length + k))) := by
  have h28 := ho.1
  have hl : h2.1.length = h.1.length + xs.length := by rw [he.1, List.length_append]
  apply List.ext_getElem?
  intro k
  have hlen : (nWs E ad h).length = h.1.length - 28 := by unfold nWs; simp
  have hlen2 : (nWs E ad2 h2).length = h2.1.length - 28 := by unfold nWs; simp
  by_cases hk : k < h.1.length - 28
  · have g1 := nWs_get (E := E) (ad := ad2) (h := h2) (a := 28 + k) (by omega) (by omega)
    have g2 := nWs_get (E := E) (ad := ad) (h := h) (a := 28 + k) (by omega) (by omega)
    rw [show 28 + k - 28 = k by omega] at g1 g2
    rw [g1, List.getElem?_append_left (by omega), g2, enc_ext he ho (by omega), he.2.2 _ (by omega)]
  · rw [List.getElem?_append_right (by omega), hlen]
    by_cases hk2 : k < h2.1.length - 28
    · have g1 := nWs_get (E := E) (ad := ad2) (h := h2) (a := 28 + k) (by omega) (by omega)
      rw [show 28 + k - 28 = k by omega] at g1
      rw [g1, List.getElem?_map, List.getElem?_range (by omega)]
      show _ = some (ad2 (h.1.length + (k - (h.1.length - 28))), enc E ad2 h2 (h.1.length + (k - (h.1.length - 28))))
      rw [show h.1.length + (k - (h.1.length - 28)) = 28 + k by omega]
    · rw [List.getElem?_eq_none (by omega), List.getElem?_eq_none (by simp; omega)]
theorem nCs_ext {fo : Option Nat} {h h2 : Hp} {ad ad2 : Nat → Nat} {xs : List (Nat × Nat)} {A : Nat → Prop} {U : State} {H : Heap} (he : Ext h h2 ad ad2 xs) (ho : okH h) (w : nCs fo ad h A U H) : nCs fo ad2 h2 A U H := by
  have h28 := ho.1
  obtain ⟨e1, e2, e3⟩ := he
  have hs : ∀ a, a < 28 → h2.1[a]? = h.1[a]? := fun a ha => by rw [e1, List.getElem?_append_left (by omega)]
  obtain ⟨w1, w2, w3, w4, w5, w6⟩ := w
  refine ⟨fun a n ha hn => ?_, fun a n ha hn => ?_, fun a n ha hn => ?_, by rw [e3 1 (by omega)]; exact w4, by rw [e3 2 (by omega)]; exact w5, w6⟩
  · rw [e3 a (by omega)]
    simp only [(e2 a _ (show a < h.1.length by omega)).1]
    exact w1 a n ha (by rw [← hs a ha]; exact hn)
  · rw [e3 a (by omega)]
    simp only [(e2 a _ (show a < h.1.length by omega)).1]
    exact w2 a n ha (by rw [← hs a ha]; exact hn)
  · rw [e3 a (by omega), (e2 a 1 (by omega)).1, (e2 a 0 (by omega)).2.1, rmap_ext e3 (fun x hx => (ho.2.2.1 a 0 x hx).1)]
    exact w3 a n ha (by rw [← hs a ha]; exact hn)
theorem nWd_ext {ad ad2 : Nat → Nat} {U : State} (ha : ∀ b, b < 28 → ad2 b = ad b) (w : nWd ad U) : nWd ad2 U := by
  obtain ⟨w1, w2, w3, w4, w5⟩ := w
  refine ⟨w1, w2, w3, w4, fun q hq => ?_⟩
  have hq2 : q.2.2 < 12 := by
    have : nSx.all (fun q => decide (q.2.2 < 12)) = true := by decide
    simpa using List.all_eq_true.mp this q hq
  rw [ha _ (by omega)]
  exact w5 q hq
theorem okH_alc {h : Hp} {k n : Nat} (ho : okH h) (hk : k < 11 ∨ k = 100 ∨ k = 101 ∨ k = 102 ∨ k = 110 ∨ k = 111 ∨ k = 112) (hn : n < 2147483648) : okH (alc h k n) := by
  obtain ⟨o1, o2, o3, o4, o5, o6⟩ := ho
  have hl : (alc h k n).1.length = h.1.length + 1 := by show (h.1 ++ [(k, n)]).length = _; simp
  refine ⟨by omega, fun a i => ?_, fun a i b hb => ?_, fun a k2 n2 hs => ?_, ?_, fun a i n2 hs => ?_⟩
  · show inI (if a = h.1.length then 0 else h.2.1 a i)
    split
    · exact inI_0
    · exact o2 a i
  · have hb : (if a = h.1.length then none else h.2.2.1 a i) = some b := hb
    split at hb
    · cases hb
    · have := o3 a i b hb
      omega
  · have hs : (h.1 ++ [(k, n)])[a]? = some (k2, n2) := hs
    by_cases ha : a < h.1.length
    · rw [List.getElem?_append_left ha] at hs
      exact o4 a k2 n2 hs
    · rw [List.getElem?_append_right (by omega)] at hs
      have h0 : a - h.1.length < 1 := (List.getElem?_eq_some_iff.mp hs).1
      rw [show a - h.1.length = 0 by omega] at hs
      cases hs
      exact ⟨fun _ => ⟨hk, hn⟩, fun q => by omega⟩
  · show (h.1 ++ [(k, n)])[27]? = _
    rw [List.getElem?_append_left (by omega)]
    exact o5
  · show (if a = h.1.length then 0 else h.2.1 a i) = 0 ∨ (if a = h.1.length then 0 else h.2.1 a i) = 1
    split
    · exact Or.inl rfl
    · rename_i ha
      have hs : (h.1 ++ [(k, n)])[a]? = some (101, n2) := hs
      have hl2 := (List.getElem?_eq_some_iff.mp hs).1
      rw [List.length_append] at hl2
      have hl3 : a < h.1.length + 1 := hl2
      rw [List.getElem?_append_left (by omega)] at hs
      exact o6 a i n2 hs
theorem Ext.alc {h : Hp} {k n q : Nat} {ad : Nat → Nat} : Ext h (alc h k n) ad (fun b => if b = h.1.length then q else ad b) [(k, n)] := by
  refine ⟨rfl, fun b i hb => ?_, fun b hb => ?_⟩
  · have e : b ≠ h.1.length := by omega
    exact ⟨if_neg e, if_neg e, if_neg e⟩
  · have e : b ≠ h.1.length := by omega
    exact if_neg e
theorem clk : ((List.range 11).all fun ci => match nCl[ci]?, nFT[ci]? with
  | some cc, some ts => decide (ts.length = cc.2.2) && (List.range cc.2.2).all fun j => match parseFieldDescriptor (cc.2.1 j).2.2.1, ts[j]? with
    | some .int, some 0 => true
    | some .boolean, some 1 => true
    | some .long, some 2 => true
    | some (.object _), some 3 => true
    | some (.array _), some 3 => true
    | _, _ => false
  | _, _ => false) = true := by decide +kernel
theorem clk_spec {ci j : Nat} {cc : vw_C} {ts : List Nat} {ty : FieldType} (h1 : nCl[ci]? = some cc) (h2 : nFT[ci]? = some ts) (hj : j < cc.2.2) (hty : parseFieldDescriptor (cc.2.1 j).2.2.1 = some ty) : ∃ t, ts[j]? = some t ∧ ((t = 3 ∧ defaultValue ty = .null) ∨ (t = 2 ∧ defaultValue ty = .long 0) ∨ (t ≠ 3 ∧ t ≠ 2 ∧ defaultValue ty = .int 0)) := by
  have h3 := List.all_eq_true.mp clk ci (List.mem_range.mpr (nCl_lt h1))
  rw [h1, h2] at h3
  simp only [Bool.and_eq_true, decide_eq_true_eq] at h3
  have h4 := List.all_eq_true.mp h3.2 j (List.mem_range.mpr hj)
  rw [hty] at h4
  cases ht : ts[j]? with
  | none => rw [ht] at h4; cases ty <;> simp at h4
  | some t =>
    rw [ht] at h4
    refine ⟨t, rfl, ?_⟩
    split at h4
    · rename_i e1 e2; cases e1; cases e2; exact Or.inr (Or.inr ⟨by decide, by decide, rfl⟩)
    · rename_i e1 e2; cases e1; cases e2; exact Or.inr (Or.inr ⟨by decide, by decide, rfl⟩)
    · rename_i e1 e2; cases e1; cases e2; exact Or.inr (Or.inl ⟨rfl, rfl⟩)
    · rename_i e1 e2; cases e1; cases e2; exact Or.inl ⟨rfl, rfl⟩
    · rename_i e1 e2; cases e1; cases e2; exact Or.inl ⟨rfl, rfl⟩
    · cases h4
section SNDN
variable {p : Program} {l : Launch} {e : Env} {R : Room} {s : State} {m : MethodId} {args : Array Value} {below : List Frame} {meth : Method} {c : Code} {Qw : State → Prop} {fo : Option Nat} {E : Nat → ClassId} {D : va_G} {A : Nat → Prop} {n0 : Nat} {ad0 : Nat → Nat} {nL : Nat}
variable {K : Nat → Lc → List Vl → Hp → Nat → Nat → Prop} {C : Nat → Lc → Hp → (Option Vl → Hp → Prop) → Prop} {r : MR} {pc len : Nat} {ls : Lc} {st : List Vl} {h h' : Hp} {cs sl : Nat} {Q : Option Vl → Hp → Prop} {la : Array Slot} {H H1 : Heap} {locs locs1 : List Loc} {ad ad2 : Nat → Nat}
theorem Inv.ext {st' : List Vl} {xs : List (Nat × Nat)} (hi : Inv fo E D A n0 ad0 s nL ls st h la H locs ad) (he : Ext h h' ad ad2 xs) (ho' : okH h') (hst : okSt h'.1.length st') (hP : va_P D nCl (nWs E ad2 h') H1) (hD : va_D A (nWs E ad2 h')) (hS : va_S A s.heap H1 locs1) : Inv fo E D A n0 ad0 s nL ls st' h' la H1 locs1 ad2 := by
  obtain ⟨⟨i1, i2⟩, i3, i4, ⟨w1, w2, w3, w4, w5, w6, w7, w8⟩, i5, i6⟩ := hi
  have hl : h'.1.length = h.1.length + xs.length := by rw [he.1, List.length_append]
  have h28 := w8.1
  exact ⟨⟨i1.mono (cvL_ext he.2.2 i3), i2⟩, i3.mono (by omega), hst, ⟨w1, hP, hD, hS, w5, nCs_ext he w8 w6, nWd_ext (fun b hb => he.2.2 b (by omega)) w7, ho'⟩, by omega, fun a ha => by rw [he.2.2 a (by omega)]; exact i6 a ha⟩
/-- behind a new cell: the run goes on -/
theorem go_alc {k n q : Nat} {rest : List Vl} {en : va_E} {cs2 sl2 : Nat} (hg : Gw p l e R s m args below meth c Qw fo E D A n0 ad0 nL K) (hi : Inv fo E D A n0 ad0 s nL ls st h la H locs ad) (hst : okSt h.1.length rest) (hk : k < 11 ∨ k = 100 ∨ k = 101 ∨ k = 102 ∨ k = 110 ∨ k = 111 ∨ k = 112) (hn : n < 2147483648) (hw : K pc ls (.inr (.inr (some h.1.length)) :: rest) (alc h k n) cs2 sl2)
    (hen : enc E (fun b => if b = h.1.length then q else ad b) (alc h k n) h.1.length = en) (hP : va_P D nCl (nWs E ad h ++ [(q, en)]) H1) (hD : va_D A (nWs E ad h ++ [(q, en)])) (hS : va_S A s.heap H1 locs1) : W p l e R s m args below meth c H1 locs1 cs2 sl2 Qw (F0 m pc la (.ref q :: rest.map (cv ad fo))) := by
  have ho := hi.2.2.2.1.2.2.2.2.2.2.2
  have he := Ext.alc (h := h) (k := k) (n := n) (q := q) (ad := ad)
  have hq : (fun b => if b = h.1.length then q else ad b) h.1.length = q := if_pos rfl
  have e1 := nWs_ext (E := E) he ho
  have e2 : (List.range [(k, n)].length).map (fun j => ((fun b => if b = h.1.length then q else ad b) (h.1.length + j), enc E (fun b => if b = h.1.length then q else ad b) (alc h k n) (h.1.length + j))) = [(q, en)] := by
    show [((fun b => if b = h.1.length then q else ad b) (h.1.length + 0), enc E (fun b => if b = h.1.length then q else ad b) (alc h k n) (h.1.length + 0))] = _
    rw [Nat.add_zero, hen, hq]
  rw [e2] at e1
  have hl : (alc h k n).1.length = h.1.length + 1 := by show (h.1 ++ [(k, n)]).length = _; simp
  have h28 := ho.1
  have := hg _ _ _ _ _ _ _ _ _ _ hw (hi.ext (H1 := H1) (locs1 := locs1) he (okH_alc ho hk hn) (.cons (fun a ha => by cases ha; omega) (hst.mono (by omega))) (by rw [e1]; exact hP) (by rw [e1]; exact hD) hS)
  rw [List.map_cons, cvs_ext he.2.2 hst, cv_ref (by omega), if_pos rfl] at this
  exact this
theorem s_new {i : Nat} (hx : p.tables.exec = Jvm.exec) (hb : c.code = r.2.1) (hR1 : R.cells = r.2.2.2.2.2.2.2.1) (hR2 : R.slots = r.2.2.2.2.2.2.2.2.1) (hg : Gw p l e R s m args below meth c Qw fo E D A n0 ad0 nL K) (hown : s.vm.findClass r.1.cls = some m.cls) (hts : ∀ w ∈ nW0, w.before args s = true) (hcn : nCn[r.2.2.2.2.1]? = some r.1.cls) (hd : decode r.2.1 pc = .ok (.new i, len)) (hw : stepF K C r pc len (.new i) ls st h cs sl Q) (hi : Inv fo E D A n0 ad0 s nL ls st h la H locs ad) : W p l e R s m args below meth c H locs cs sl Qw (F0 m pc la (st.map (cv ad fo))) := by
  obtain ⟨rfl, hw⟩ := hw
  obtain ⟨hK, hP, hD, hS, hA, hC, hWd, ho⟩ := id hi.2.2.2.1
  cases hv : lk2 nNw r.2.2.2.2.1 i with
  | none => rw [hv] at hw; exact hw.elim
  | some ci =>
    rw [hv] at hw
    cases hts0 : nFT[ci]? with
    | none => simp only [hts0] at hw
    | some ts =>
      simp only [hts0] at hw
      obtain ⟨g1, g2, hw⟩ := hw
      have h3 := lk2_all (t := nNw) (P := fun cn e => chkNw cn e.1 e.2) (by decide) nw_all hv
      simp only [chkNw, hts0] at h3
      split at h3
      · rename_i cc own ps q2 ts2 hc hown2 hps hq2 hts2
        cases hts2
        simp only [Bool.and_eq_true, decide_eq_true_eq] at h3
        obtain ⟨⟨⟨a1, a2⟩, a3⟩, a4⟩ := h3
        have eo : own = r.1.cls := Option.some.inj (hown2.symm.trans hcn)
        subst eo
        obtain ⟨ty0, hty⟩ := cl_ty ci cc hc
        have hfs : ∀ j, j < cc.2.2 → defaultValue (ty0 j) = vp_V (nfs ad (alc h ci ts.length) h.1.length ts) j := fun j hj => by
          obtain ⟨t, ht, h5⟩ := clk_spec hc hts0 hj (hty j hj)
          unfold vp_V
          rw [List.getD_eq_getElem?_getD, nfs_get ht]
          show _ = nfv ad (alc h ci ts.length) h.1.length j t
          have z1 : (alc h ci ts.length).2.1 h.1.length j = 0 := if_pos rfl
          have z2 : (alc h ci ts.length).2.2.1 h.1.length j = none := if_pos rfl
          have z3 : (alc h ci ts.length).2.2.2 h.1.length j = 0 := if_pos rfl
          unfold nfv
          rw [z1, z2, z3]
          rcases h5 with ⟨rfl, h6⟩ | ⟨rfl, h6⟩ | ⟨h7, h8, h6⟩
          · rw [h6]; rfl
          · rw [h6]; rfl
          · rw [h6, if_neg h7, if_neg h8]; rfl
        have hlt := nCl_lt hc
        refine va_new (ci := ci) (C := cc.1) (T := cc.2.1) (N := cc.2.2) hx hb hts (cl_in ci cc hc) ty0 hty hown (hts _ (wAt_in a1)) (hts _ (wAt_in a2)) (hts _ (wAt_in a3)) hK hP hD hS hA hc hfs (by rw [hR1]; exact g1) (by rw [hR2, ← a4]; exact g2) hd (fun q H1 k1 k2 k3 => ?_)
        rw [← a4]
        refine go_alc hg hi hi.2.2.1 (Or.inl hlt) ?_ hw ?_ k1 k2 k3
        · have hall : (nFT.all fun l => decide (l.length < 2147483648)) = true := by decide
          simpa using List.all_eq_true.mp hall ts (List.mem_of_getElem? hts0)
        · have hs : (alc h ci ts.length).1[h.1.length]? = some (ci, ts.length) := by
            show (h.1 ++ [(ci, ts.length)])[h.1.length]? = _
            rw [List.getElem?_append_right (Nat.le_refl _), Nat.sub_self]
            rfl
          rw [enc_obj hs hts0]
          congr 2
          unfold nfs
          apply List.map_congr_left
          intro j _
          have z2 : (alc h ci ts.length).2.2.1 h.1.length j = none := if_pos rfl
          unfold nfv
          rw [z2]
          rfl
      · cases h3
/-- the two names of one array class -/
theorem ra_one {ty : FieldType} {cA : ClassId} {t0 : Nat} {tys : List (ClassId × FieldType)} {cB : ClassId} {U : State} (h1 : va_RA U cA ty) (hK : va_K D nCl tys U) (ht : tys[t0]? = some (cB, ty)) : cA = cB := by
  have h2 := (hK.2 t0 _ ht).2
  cases ty with
  | object c9 =>
    obtain ⟨-, -, -, -, -, q1⟩ := h1
    obtain ⟨-, -, -, -, -, q2⟩ := h2
    exact Option.some.inj (q1.symm.trans q2)
  | _ => exact Option.some.inj (Eq.trans (Eq.symm h1) h2)
theorem ra_last {cA : ClassId} {ty : FieldType} {tys : List (ClassId × FieldType)} {U : State} (hK : va_K D nCl (tys ++ [(cA, ty)]) U) : va_RA U cA ty := (hK.2 tys.length (cA, ty) (by rw [List.getElem?_append_right (Nat.le_refl _), Nat.sub_self]; rfl)).2
theorem s_newarray {t : ArrayType} (hx : p.tables.exec = Jvm.exec) (hb : c.code = r.2.1) (hR1 : R.cells = r.2.2.2.2.2.2.2.1) (hR2 : R.slots = r.2.2.2.2.2.2.2.2.1) (hg : Gw p l e R s m args below meth c Qw fo E D A n0 ad0 nL K) (hts : ∀ w ∈ nW0, w.before args s = true) (hd : decode r.2.1 pc = .ok (.newarray t, len)) (hw : stepF K C r pc len (.newarray t) ls st h cs sl Q) (hi : Inv fo E D A n0 ad0 s nL ls st h la H locs ad) : W p l e R s m args below meth c H locs cs sl Qw (F0 m pc la (st.map (cv ad fo))) := by
  obtain ⟨rfl, hw⟩ := hw
  obtain ⟨n, st1, rfl, hn0, hn1, g1, g2, hw1⟩ := pI_inv hw
  obtain ⟨hK, hP, hD, hS, hA, hC, hWd, ho⟩ := id hi.2.2.2.1
  have ii : inI n := hi.2.2.1.hd
  have hneg : ¬ Int32.ofInt n < 0 := by
    rw [Int32.lt_iff_toInt_lt, inI_of ii]
    show ¬ n < 0
    omega
  have hNN : (Int32.ofInt n).toNatClampNeg = n.toNat := ix_cl ii
  have hnn : n.toNat < 2147483648 := by omega
  have hs : ∀ k, (alc h k n.toNat).1[h.1.length]? = some (k, n.toNat) := fun k => by
    show (h.1 ++ [(k, n.toNat)])[h.1.length]? = _
    rw [List.getElem?_append_right (Nat.le_refl _), Nat.sub_self]
    rfl
  have w := ac_w
  cases t with
  | int =>
    refine va_newa (ty := .int) (a0 := (n.toNat, .inl (fun _ => 0))) hx hb (hts _ (wAt_in w.1)) rfl hK hP hD hS hA (fun _ => rfl) hneg hNN (by show n.toNat * 4 ≤ _; omega) (by rw [hR1]; exact g1) (by rw [hR2]; exact g2) hd (fun q cA H1 k0 k1 k2 k3 => ?_)
    have hcA : cA = E 100 := ra_one (t0 := 0) (ra_last k0) hK rfl
    subst hcA
    refine go_alc hg hi hi.2.2.1.tl (Or.inr (Or.inl rfl)) hnn hw1 ?_ k1 k2 k3
    rw [enc_i (hs 100)]
    congr 4
    funext j
    show Int32.ofInt (if h.1.length = h.1.length then 0 else _) = 0
    rw [if_pos rfl]
    rfl
  | boolean =>
    refine va_newa (ty := .boolean) (a0 := (n.toNat, .inl (fun _ => 0))) hx hb (hts _ (wAt_in w.2.1)) rfl hK hP hD hS hA (fun _ => rfl) hneg hNN (by show n.toNat * 1 ≤ _; omega) (by rw [hR1]; exact g1) (by rw [hR2]; exact g2) hd (fun q cA H1 k0 k1 k2 k3 => ?_)
    have hcA : cA = E 101 := ra_one (t0 := 1) (ra_last k0) hK rfl
    subst hcA
    refine go_alc hg hi hi.2.2.1.tl (Or.inr (Or.inr (Or.inl rfl))) hnn hw1 ?_ k1 k2 k3
    rw [enc_z (hs 101)]
    congr 4
    funext j
    show Int32.ofInt (if h.1.length = h.1.length then 0 else _) = 0
    rw [if_pos rfl]
    rfl
  | long =>
    refine va_newa (ty := .long) (a0 := (n.toNat, .inr (.inl (fun _ => 0)))) hx hb (hts _ (wAt_in w.2.2.1)) rfl hK hP hD hS hA (fun _ => rfl) hneg hNN (by show n.toNat * 8 ≤ _; omega) (by rw [hR1]; exact g1) (by rw [hR2]; exact g2) hd (fun q cA H1 k0 k1 k2 k3 => ?_)
    have hcA : cA = E 102 := ra_one (t0 := 2) (ra_last k0) hK rfl
    subst hcA
    refine go_alc hg hi hi.2.2.1.tl (Or.inr (Or.inr (Or.inr (Or.inl rfl)))) hnn hw1 ?_ k1 k2 k3
    rw [enc_l (hs 102)]
    congr 5
    funext j
    show (if h.1.length = h.1.length then (0 : Int64) else _) = 0
    rw [if_pos rfl]
  | char => exact hw1.elim
  | float => exact hw1.elim
  | double => exact hw1.elim
  | byte => exact hw1.elim
  | short => exact hw1.elim
theorem s_anewarray {i : Nat} (hx : p.tables.exec = Jvm.exec) (hb : c.code = r.2.1) (hR1 : R.cells = r.2.2.2.2.2.2.2.1) (hR2 : R.slots = r.2.2.2.2.2.2.2.2.1) (hg : Gw p l e R s m args below meth c Qw fo E D A n0 ad0 nL K) (hown : s.vm.findClass r.1.cls = some m.cls) (hts : ∀ w ∈ nW0, w.before args s = true) (hcn : nCn[r.2.2.2.2.1]? = some r.1.cls) (hd : decode r.2.1 pc = .ok (.anewarray i, len)) (hw : stepF K C r pc len (.anewarray i) ls st h cs sl Q) (hi : Inv fo E D A n0 ad0 s nL ls st h la H locs ad) : W p l e R s m args below meth c H locs cs sl Qw (F0 m pc la (st.map (cv ad fo))) := by
  obtain ⟨rfl, hw⟩ := hw
  obtain ⟨n, st1, rfl, hn0, hn1, g1, g2, hw1⟩ := pI_inv hw
  obtain ⟨hK, hP, hD, hS, hA, hC, hWd, ho⟩ := id hi.2.2.2.1
  have ii : inI n := hi.2.2.1.hd
  have hneg : ¬ Int32.ofInt n < 0 := by
    rw [Int32.lt_iff_toInt_lt, inI_of ii]
    show ¬ n < 0
    omega
  have hNN : (Int32.ofInt n).toNatClampNeg = n.toNat := ix_cl ii
  have hnn : n.toNat < 2147483648 := by omega
  have hs : ∀ k, (alc h k n.toNat).1[h.1.length]? = some (k, n.toNat) := fun k => by
    show (h.1 ++ [(k, n.toNat)])[h.1.length]? = _
    rw [List.getElem?_append_right (Nat.le_refl _), Nat.sub_self]
    rfl
  cases hv : lk2 nNw r.2.2.2.2.1 i with
  | none => rw [hv] at hw1; exact hw1.elim
  | some ci =>
    rw [hv] at hw1
    have h3 := lk2_all (t := nNw) (P := fun cn e => chkNw cn e.1 e.2) (by decide) nw_all hv
    simp only [chkNw] at h3
    split at h3
    · rename_i cc own ps q2 ts2 hc hown2 hps hq2 hts2
      simp only [Bool.and_eq_true, decide_eq_true_eq] at h3
      obtain ⟨⟨⟨a1, a2⟩, a3⟩, a4⟩ := h3
      have eo : own = r.1.cls := Option.some.inj (hown2.symm.trans hcn)
      subst eo
      by_cases h3 : ci = 3
      · subst h3
        cases hc
        refine va_newq (C := "NumberedText$Item") hx hb hown (hts _ (wAt_in a1)) hWd.2.1 hK hP hD hS hA hneg hNN (by omega) (by rw [hR1]; exact g1) (by rw [hR2]; exact g2) hd (fun q cA H1 k0 k1 k2 k3 => ?_)
        have hcA : cA = E 110 := ra_one (t0 := 3) (ra_last k0) hK rfl
        subst hcA
        refine go_alc hg hi hi.2.2.1.tl (Or.inr (Or.inr (Or.inr (Or.inr (Or.inl rfl))))) hnn hw1 ?_ k1 k2 k3
        rw [enc_q (hs 110) (by omega)]
        congr 7
        funext j
        show Option.map _ (if h.1.length = h.1.length then none else _) = none
        rw [if_pos rfl]
        rfl
      · by_cases h1 : ci = 1
        · subst h1
          cases hc
          refine va_newq (C := "NumberedText$Text") hx hb hown (hts _ (wAt_in a1)) hWd.2.2.1 hK hP hD hS hA hneg hNN (by omega) (by rw [hR1]; exact g1) (by rw [hR2]; exact g2) hd (fun q cA H1 k0 k1 k2 k3 => ?_)
          have hcA : cA = E 111 := ra_one (t0 := 4) (ra_last k0) hK rfl
          subst hcA
          refine go_alc hg hi hi.2.2.1.tl (Or.inr (Or.inr (Or.inr (Or.inr (Or.inr (Or.inl rfl)))))) hnn hw1 ?_ k1 k2 k3
          rw [enc_q (hs 111) (by omega)]
          congr 7
          funext j
          show Option.map _ (if h.1.length = h.1.length then none else _) = none
          rw [if_pos rfl]
          rfl
        · exfalso
          split at hw1
          · rename_i e9; cases e9; exact h3 rfl
          · rename_i e9; cases e9; exact h1 rfl
          · exact hw1
    · cases h3
end SNDN
