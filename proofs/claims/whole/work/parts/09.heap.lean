/-! the abstract heap and the machine's world: how a write changes both -/
theorem nWs_get {E : Nat → ClassId} {ad : Nat → Nat} {h : Hp} {a : Nat} (h28 : 28 ≤ a) (hl : a < h.1.length) : (nWs E ad h)[a - 28]? = some (ad a, enc E ad h a) := by
  unfold nWs
  rw [List.getElem?_map, List.getElem?_range (by omega)]
  show some (ad (28 + (a - 28)), enc E ad h (28 + (a - 28))) = _
  rw [show 28 + (a - 28) = a by omega]
theorem enc_ne {E : Nat → ClassId} {ad : Nat → Nat} {h h' : Hp} {b : Nat} (hs : h'.1[b]? = h.1[b]?) (hi : ∀ i, h'.2.1 b i = h.2.1 b i) (hr : ∀ i, h'.2.2.1 b i = h.2.2.1 b i) (hl : ∀ i, h'.2.2.2 b i = h.2.2.2 b i) : enc E ad h' b = enc E ad h b := by
  have hl2 : h'.2.2.2 b = h.2.2.2 b := funext hl
  unfold enc nfs nfv
  simp only [hs, hi, hr, hl, hl2]
theorem enc_obj {E : Nat → ClassId} {ad : Nat → Nat} {h : Hp} {a k n : Nat} {ts : List Nat} (hs : h.1[a]? = some (k, n)) (ht : nFT[k]? = some ts) : enc E ad h a = .inr (k, nfs ad h a ts) := by
  unfold enc
  simp only [hs, ht]
theorem enc_i {E : Nat → ClassId} {ad : Nat → Nat} {h : Hp} {a n : Nat} (hs : h.1[a]? = some (100, n)) : enc E ad h a = .inl (E 100, n, .inl (fun i => Int32.ofInt (h.2.1 a i))) := by
  unfold enc
  simp only [hs]
  rfl
theorem enc_z {E : Nat → ClassId} {ad : Nat → Nat} {h : Hp} {a n : Nat} (hs : h.1[a]? = some (101, n)) : enc E ad h a = .inl (E 101, n, .inl (fun i => Int32.ofInt (h.2.1 a i))) := by
  unfold enc
  simp only [hs]
  rfl
theorem enc_l {E : Nat → ClassId} {ad : Nat → Nat} {h : Hp} {a n : Nat} (hs : h.1[a]? = some (102, n)) : enc E ad h a = .inl (E 102, n, .inr (.inl (h.2.2.2 a))) := by
  unfold enc
  simp only [hs]
  rfl
theorem enc_q {E : Nat → ClassId} {ad : Nat → Nat} {h : Hp} {a k n : Nat} (hs : h.1[a]? = some (k, n)) (hk : k = 110 ∨ k = 111 ∨ k = 112) : enc E ad h a = .inl (E k, n, .inr (.inr (.inr (.inr (fun i => (h.2.2.1 a i).map ad))))) := by
  unfold enc
  simp only [hs]
  rcases hk with rfl | rfl | rfl <;> rfl
theorem nFT_lt {k : Nat} {ts : List Nat} (h : nFT[k]? = some ts) : k < 11 := by
  have := (List.getElem?_eq_some_iff.mp h).1
  simpa [nFT] using this
theorem nFT_of {k : Nat} (h : k < 11) : ∃ ts, nFT[k]? = some ts := ⟨nFT[k]'(by simpa [nFT] using h), List.getElem?_eq_getElem _⟩
theorem nCl_of {k : Nat} (h : k < 11) : ∃ q, nCl[k]? = some q := ⟨nCl[k]'(by simpa [nCl] using h), List.getElem?_eq_getElem _⟩
theorem nCl_lt {k : Nat} {q : vw_C} (h : nCl[k]? = some q) : k < 11 := by
  have := (List.getElem?_eq_some_iff.mp h).1
  simpa [nCl] using this
theorem nfs_get {ad : Nat → Nat} {h : Hp} {a k t : Nat} {ts : List Nat} (ht : ts[k]? = some t) : (nfs ad h a ts)[k]? = some (nfv ad h a k t) := by
  have hk := (List.getElem?_eq_some_iff.mp ht).1
  unfold nfs
  rw [List.getElem?_map, List.getElem?_range hk]
  show some (nfv ad h a k (ts.getD k 0)) = _
  rw [List.getD_eq_getElem?_getD, ht]
  rfl
theorem nfs_len {ad : Nat → Nat} {h : Hp} {a : Nat} {ts : List Nat} : (nfs ad h a ts).length = ts.length := by
  unfold nfs
  simp
/-- one field changed: the fields' list has that one set -/
theorem nfs_set {ad : Nat → Nat} {h h' : Hp} {a k t : Nat} {ts : List Nat} (ht : ts[k]? = some t) (hn : ∀ i t', i ≠ k → ts[i]? = some t' → nfv ad h' a i t' = nfv ad h a i t') : nfs ad h' a ts = (nfs ad h a ts).set k (nfv ad h' a k t) := by
  apply List.ext_getElem?
  intro i
  by_cases hi : i < ts.length
  · obtain ⟨t', ht'⟩ : ∃ t', ts[i]? = some t' := ⟨_, List.getElem?_eq_getElem hi⟩
    rw [nfs_get ht']
    by_cases e : i = k
    · subst e
      rw [List.getElem?_set_self (by rw [nfs_len]; exact hi)]
      have : t' = t := Option.some.inj (ht'.symm.trans ht)
      rw [this]
    · rw [List.getElem?_set_ne (fun q => e q.symm), nfs_get ht', hn i t' e ht']
  · rw [List.getElem?_eq_none (by rw [nfs_len]; omega), List.getElem?_eq_none (by rw [List.length_set, nfs_len]; omega)]
theorem nWs_set {E : Nat → ClassId} {ad : Nat → Nat} {h h' : Hp} {a : Nat} (hl : h'.1 = h.1) (he : ∀ b, b ≠ a → enc E ad h' b = enc E ad h b) (h28 : 28 ≤ a) : nWs E ad h' = (nWs E ad h).set (a - 28) (ad a, enc E ad h' a) := by
  apply List.ext_getElem?
  intro k
  have hlen : (nWs E ad h).length = h.1.length - 28 := by unfold nWs; simp
  have hlen' : (nWs E ad h').length = h.1.length - 28 := by unfold nWs; rw [hl]; simp
  by_cases hk : k < h.1.length - 28
  · have g1 := nWs_get (E := E) (ad := ad) (h := h') (a := 28 + k) (by omega) (by rw [hl]; omega)
    have g2 := nWs_get (E := E) (ad := ad) (h := h) (a := 28 + k) (by omega) (by omega)
    rw [show 28 + k - 28 = k by omega] at g1 g2
    rw [g1]
    by_cases e : 28 + k = a
    · rw [show a - 28 = k by omega, List.getElem?_set_self (by rw [hlen]; exact hk), e]
    · rw [List.getElem?_set_ne (by omega), g2, he _ e]
  · rw [List.getElem?_eq_none (by rw [hlen']; omega), List.getElem?_eq_none (by rw [List.length_set, hlen]; omega)]
theorem nCs_congr {fo : Option Nat} {ad : Nat → Nat} {h h' : Hp} {A : Nat → Prop} {U : State} {H : Heap} (w : nCs fo ad h A U H) (hs : ∀ a, a < 28 → h'.1[a]? = h.1[a]?) (hi : ∀ a i, a < 28 → h'.2.1 a i = h.2.1 a i) (hr : ∀ a i, a < 28 → h'.2.2.1 a i = h.2.2.1 a i) : nCs fo ad h' A U H := by
  obtain ⟨w1, w2, w3, w4⟩ := w
  refine ⟨fun a n ha hn => ?_, fun a n ha hn => ?_, fun a n ha hn => ?_, w4⟩
  · simp only [hi a _ ha]
    exact w1 a n ha (by rw [← hs a ha]; exact hn)
  · simp only [hi a _ ha]
    exact w2 a n ha (by rw [← hs a ha]; exact hn)
  · simp only [hi a _ ha, hr a _ ha]
    exact w3 a n ha (by rw [← hs a ha]; exact hn)
/-- a write in place -/
theorem nW_put {fo : Option Nat} {E : Nat → ClassId} {D : va_G} {ad : Nat → Nat} {h h' : Hp} {A : Nat → Prop} {s : State} {H H1 : Heap} {locs locs1 : List Loc} {a : Nat} (w : nW fo E D ad h A s H locs) (h28 : 28 ≤ a) (hs : h'.1 = h.1) (hi : ∀ b i, b ≠ a → h'.2.1 b i = h.2.1 b i) (hr : ∀ b i, b ≠ a → h'.2.2.1 b i = h.2.2.1 b i) (hl : ∀ b i, b ≠ a → h'.2.2.2 b i = h.2.2.2 b i) (hok : okH h') {e : va_E} (he : enc E ad h' a = e) (hP : va_P D nCl ((nWs E ad h).set (a - 28) (ad a, e)) H1) (hD : va_D A ((nWs E ad h).set (a - 28) (ad a, e))) (hS : va_S A s.heap H1 locs1) : nW fo E D ad h' A s H1 locs1 := by
  obtain ⟨w1, -, -, -, w5, w6, w7, -⟩ := w
  subst he
  have e1 : nWs E ad h' = (nWs E ad h).set (a - 28) (ad a, enc E ad h' a) := nWs_set hs (fun b hb => enc_ne (by rw [hs]) (fun i => hi b i hb) (fun i => hr b i hb) (fun i => hl b i hb)) h28
  refine ⟨w1, by rw [e1]; exact hP, by rw [e1]; exact hD, hS, w5, nCs_congr w6 (fun b _ => by rw [hs]) (fun b i hb => hi b i (by omega)) (fun b i hb => hr b i (by omega)), w7, hok⟩
theorem up2_ne {α : Type} {f : Nat → Nat → α} {a i b j : Nat} {v : α} (h : b ≠ a) : up2 f a i v b j = f b j := if_neg fun q => h q.1
theorem up2_nj {α : Type} {f : Nat → Nat → α} {a i b j : Nat} {v : α} (h : j ≠ i) : up2 f a i v b j = f b j := if_neg fun q => h q.2
theorem up2_eq {α : Type} {f : Nat → Nat → α} {a i : Nat} {v : α} : up2 f a i v a i = v := if_pos ⟨rfl, rfl⟩
theorem okH_putI {h : Hp} {a i : Nat} {v : Int} (ho : okH h) (hv : inI v) (hz : ∀ n, h.1[a]? = some (101, n) → v = 0 ∨ v = 1) : okH (putI h a i v) := by
  obtain ⟨o1, o2, o3, o4, o5, o6⟩ := ho
  refine ⟨o1, fun b j => ?_, o3, o4, o5, fun b j n hn => ?_⟩
  · show inI (up2 h.2.1 a i v b j)
    unfold up2
    split
    · exact hv
    · exact o2 b j
  · show up2 h.2.1 a i v b j = 0 ∨ up2 h.2.1 a i v b j = 1
    unfold up2
    split
    · rename_i q; exact hz n (by rw [← q.1]; exact hn)
    · exact o6 b j n hn
theorem okH_putR {h : Hp} {a i : Nat} {v : Option Nat} (ho : okH h) (hv : ∀ b, v = some b → b < h.1.length ∧ b ≠ 27) : okH (putR h a i v) := by
  obtain ⟨o1, o2, o3, o4, o5, o6⟩ := ho
  refine ⟨o1, o2, fun b j x hx => ?_, o4, o5, o6⟩
  have hx : up2 h.2.2.1 a i v b j = some x := hx
  unfold up2 at hx
  split at hx
  · exact hv x hx
  · exact o3 b j x hx
theorem okH_putL {h : Hp} {a i : Nat} {v : Int64} (ho : okH h) : okH (putL h a i v) := ho
theorem cvr_rf {ad : Nat → Nat} {fo r : Option Nat} (h : ∀ b, r = some b → b ≠ 27) : cvr ad fo r = va_rf (r.map ad) := by
  cases r with
  | none => rfl
  | some b => exact if_neg (h b rfl)
theorem cv_ref {ad : Nat → Nat} {fo : Option Nat} {a : Nat} (h : a ≠ 27) : cv ad fo (.inr (.inr (some a))) = .ref (ad a) := if_neg h
theorem ix_in {i : Int} {n : Nat} (hi : inI i) (h : inA i n) : vp_in (Int32.ofInt i) n := vp_in_iff.mpr (by rw [inI_of hi]; exact h)
theorem ix_cl {i : Int} (hi : inI i) : (Int32.ofInt i).toNatClampNeg = i.toNat := by
  show (Int32.ofInt i).toInt.toNat = i.toNat
  rw [inI_of hi]
theorem lk2_all {β : Type} {t : List (List (Nat × β))} {P : Nat → (Nat × β) → Bool} {c i : Nat} {v : β} (hlen : t.length ≤ 20) (h : ((List.range 20).all fun cn => ((t[cn]?).getD []).all fun e => P cn e) = true) (hl : lk2 t c i = some v) : P c (i, v) = true := by
  unfold lk2 at hl
  cases ht : t[c]? with
  | none => rw [ht] at hl; cases hl
  | some l =>
    rw [ht] at hl
    have hc : c < 20 := Nat.lt_of_lt_of_le (List.getElem?_eq_some_iff.mp ht).1 hlen
    have h1 := List.all_eq_true.mp h c (List.mem_range.mpr hc)
    rw [ht] at h1
    refine List.all_eq_true.mp h1 (i, v) ?_
    show (i, v) ∈ l
    have hl2 : l.lookup i = some v := hl
    clear h1 ht h hl
    induction l with
    | nil => cases hl2
    | cons x l ih =>
      obtain ⟨x1, x2⟩ := x
      rw [List.lookup_cons] at hl2
      by_cases he : i = x1
      · subst he
        simp only [beq_self_eq_true] at hl2
        cases hl2
        exact List.mem_cons_self
      · have he2 : (i == x1) = false := by simpa using he
        simp only [he2] at hl2
        exact List.mem_cons_of_mem _ (ih hl2)
theorem gs_cases : ((List.range 20).all fun cn => ((nGs[cn]?).getD []).all fun e => decide (cn = 11 ∧ e.1 = 19 ∧ e.2 = .inr (.inr (some 1))) || decide (cn = 6 ∧ e.1 = 110 ∧ e.2 = .inr (.inr (some 2))) || decide (cn = 17 ∧ e.1 = 38 ∧ e.2 = .inl 1) || decide (cn = 17 ∧ e.1 = 1053 ∧ e.2 = .inr (.inr (some 27)))) = true := by decide +kernel
theorem fd_17 : ((List.range 20).all fun cn => ((nFd[cn]?).getD []).all fun e => decide (cn = 17) || !decide (e.2.1 = 200)) = true := by decide +kernel
theorem fd_18 : ((List.range 20).all fun cn => ((nFd[cn]?).getD []).all fun e => !decide (cn = 17) || (decide (e = (9, 200, 0, 3, true)) || decide (e = (15, 200, 1, 0, true)))) = true := by decide +kernel
section SNDH
variable {p : Program} {l : Launch} {e : Env} {R : Room} {s : State} {m : MethodId} {args : Array Value} {below : List Frame} {meth : Method} {c : Code} {Qw : State → Prop} {fo : Option Nat} {E : Nat → ClassId} {D : va_G} {A : Nat → Prop} {n0 : Nat} {ad0 : Nat → Nat} {nL : Nat}
variable {K : Nat → Lc → List Vl → Hp → Nat → Nat → Prop} {C : Nat → Lc → Hp → (Option Vl → Hp → Prop) → Prop} {r : MR} {pc len : Nat} {ls : Lc} {st : List Vl} {h h' : Hp} {cs sl : Nat} {Q : Option Vl → Hp → Prop} {la : Array Slot} {H H1 : Heap} {locs locs1 : List Loc} {ad : Nat → Nat}
theorem Inv.hp {st' : List Vl} (hi : Inv fo E D A n0 ad0 s nL ls st h la H locs ad) (hs : h'.1 = h.1) (ho : okSt h.1.length st') (hw : nW fo E D ad h' A s H1 locs1) : Inv fo E D A n0 ad0 s nL ls st' h' la H1 locs1 ad := ⟨hi.1, by rw [hs]; exact hi.2.1, by rw [hs]; exact ho, hw, by rw [hs]; exact hi.2.2.2.2.1, hi.2.2.2.2.2⟩
theorem ref_27 {a k n : Nat} (ho : okH h) (hs : h.1[a]? = some (k, n)) (hk : k ≠ 250) : a ≠ 27 := by
  rintro rfl
  rw [ho.2.2.2.2.1] at hs
  cases hs
  exact hk rfl
theorem ref_28 {a k n : Nat} (ho : okH h) (hs : h.1[a]? = some (k, n)) (hk : k ≠ 100 ∧ k ≠ 103 ∧ k ≠ 200 ∧ k ≠ 250) : 28 ≤ a := by
  rcases Nat.lt_or_ge a 28 with q | q
  · have := ((ho.2.2.2.1 a k n hs).2 q).1
    omega
  · exact q
theorem s_getstatic {i : Nat} (hx : p.tables.exec = Jvm.exec) (hb : c.code = r.2.1) (hg : Gw p l e R s m args below meth c Qw fo E D A n0 ad0 nL K) (hown : s.vm.findClass r.1.cls = some m.cls) (hts : ∀ w ∈ nW0, w.before args s = true) (hcn : nCn[r.2.2.2.2.1]? = some r.1.cls) (hd : decode r.2.1 pc = .ok (.getstatic i, len)) (hw : stepF K C r pc len (.getstatic i) ls st h cs sl Q) (hi : Inv fo E D A n0 ad0 s nL ls st h la H locs ad) : W p l e R s m args below meth c H locs cs sl Qw (F0 m pc la (st.map (cv ad fo))) := by
  obtain ⟨rfl, hw⟩ := hw
  obtain ⟨-, -, -, hS, -, ⟨-, -, -, z1, z2, z3, z4⟩, -, ho⟩ := hi.2.2.2.1
  have hl28 := ho.1
  generalize r.2.2.2.2.1 = cn at hw hcn
  cases hv : lk2 nGs cn i with
  | none => rw [hv] at hw; exact hw.elim
  | some v =>
    rw [hv] at hw
    have g := gs_w
    have h4 := lk2_all (t := nGs) (by decide) gs_cases hv
    simp only [Bool.or_eq_true, decide_eq_true_eq] at h4
    rcases h4 with ((⟨rfl, rfl, rfl⟩ | ⟨rfl, rfl, rfl⟩) | ⟨rfl, rfl, rfl⟩) | ⟨rfl, rfl, rfl⟩
    · have hown' : s.vm.findClass "NumberedText$Saying" = some m.cls := by rw [← Option.some.inj hcn] at hown; exact hown
      refine va_gets hx hb z1 hS hown' (hts _ (wAt_in g.1)) (fun _ q => q) hd ?_
      exact W_top (v := .inr (.inr (some 1))) (cv_ref (by decide)) (hg _ _ _ _ _ _ _ _ _ _ hw (hi.st (.cons (fun a ha => by cases ha; omega) hi.2.2.1)))
    · have hown' : s.vm.findClass "NumberedText$Layout" = some m.cls := by rw [← Option.some.inj hcn] at hown; exact hown
      refine va_gets hx hb z2 hS hown' (hts _ (wAt_in g.2.1)) (fun _ q => q) hd ?_
      exact W_top (v := .inr (.inr (some 2))) (cv_ref (by decide)) (hg _ _ _ _ _ _ _ _ _ _ hw (hi.st (.cons (fun a ha => by cases ha; omega) hi.2.2.1)))
    · have hown' : s.vm.findClass "java/lang/String" = some m.cls := by rw [← Option.some.inj hcn] at hown; exact hown
      refine va_gets hx hb z3 hS hown' (hts _ (wAt_in g.2.2.1)) (fun _ q => q) hd ?_
      exact W_top (v := .inl 1) rfl (hg _ _ _ _ _ _ _ _ _ _ hw (hi.st (.cons (by show inI 1; unfold inI; omega) hi.2.2.1)))
    · have hown' : s.vm.findClass "java/lang/String" = some m.cls := by rw [← Option.some.inj hcn] at hown; exact hown
      refine va_gets hx hb z4 hS hown' (hts _ (wAt_in g.2.2.2.1)) (fun _ q => q) hd ?_
      exact W_top (v := .inr (.inr (some 27))) rfl (hg _ _ _ _ _ _ _ _ _ _ hw (hi.st (.cons (fun a ha => by cases ha; omega) hi.2.2.1)))
/-- what a field's entry says -/
theorem fd_spec {cn i : Nat} {q : Nat × Nat × Nat × Bool} (h : lk2 nFd cn i = some q) (h2 : q.1 ≠ 200) : ∃ (cc : vw_C) (own : String) (ts : List Nat), nCl[q.1]? = some cc ∧ nCn[cn]? = some own ∧ nFT[q.1]? = some ts ∧ ts[q.2.1]? = some q.2.2.1 ∧ Cond.fieldLink own i (cc.2.1 q.2.1).1 (cc.2.1 q.2.1).2.1 (cc.2.1 q.2.1).2.2.1 ∈ nW0 ∧ q.2.1 < cc.2.2 ∧ (cc.2.1 q.2.1).2.2.2 = q.2.2.2 ∧ (cc.2.1 q.2.1).1 = cc.1 ∧ ((parseFieldDescriptor (cc.2.1 q.2.1).2.2.1 = some .int ∧ q.2.2.1 = 0) ∨ (parseFieldDescriptor (cc.2.1 q.2.1).2.2.1 = some .boolean ∧ q.2.2.1 = 1) ∨ (parseFieldDescriptor (cc.2.1 q.2.1).2.2.1 = some .long ∧ q.2.2.1 = 2) ∨ ((∃ t, parseFieldDescriptor (cc.2.1 q.2.1).2.2.1 = some t ∧ ((∃ n, t = .object n) ∨ ∃ t', t = .array t')) ∧ q.2.2.1 = 3)) := by
  have h3 := lk2_all (t := nFd) (P := fun cn e => decide (e.2.1 = 200) || chkFd cn e.1 e.2) (by decide) fd_all h
  simp only [Bool.or_eq_true, decide_eq_true_eq] at h3
  rcases h3 with h3 | h3
  · exact absurd h3 h2
  · unfold chkFd at h3
    split at h3
    · rename_i cc own ps hc ho hp
      simp only [Bool.and_eq_true, decide_eq_true_eq] at h3
      obtain ⟨⟨⟨⟨⟨a1, a2⟩, a3⟩, a4⟩, a5⟩, a6⟩ := h3
      cases hts : nFT[q.1]? with
      | none => rw [hts] at a4; cases a4
      | some ts =>
        rw [hts] at a4
        refine ⟨cc, own, ts, hc, ho, rfl, a4, wAt_in a1, a2, a3, a5, ?_⟩
        split at a6
        · exact Or.inl ⟨by assumption, by assumption⟩
        · exact Or.inr (Or.inl ⟨by assumption, by assumption⟩)
        · exact Or.inr (Or.inr (Or.inl ⟨by assumption, by assumption⟩))
        · exact Or.inr (Or.inr (Or.inr ⟨⟨_, by assumption, Or.inl ⟨_, rfl⟩⟩, by assumption⟩))
        · exact Or.inr (Or.inr (Or.inr ⟨⟨_, by assumption, Or.inr ⟨_, rfl⟩⟩, by assumption⟩))
        · cases a6
    · cases h3
theorem s_getfield {i : Nat} (hx : p.tables.exec = Jvm.exec) (hb : c.code = r.2.1) (hg : Gw p l e R s m args below meth c Qw fo E D A n0 ad0 nL K) (hown : s.vm.findClass r.1.cls = some m.cls) (hts : ∀ w ∈ nW0, w.before args s = true) (hcn : nCn[r.2.2.2.2.1]? = some r.1.cls) (hd : decode r.2.1 pc = .ok (.getfield i, len)) (hw : stepF K C r pc len (.getfield i) ls st h cs sl Q) (hi : Inv fo E D A n0 ad0 s nL ls st h la H locs ad) : W p l e R s m args below meth c H locs cs sl Qw (F0 m pc la (st.map (cv ad fo))) := by
  obtain ⟨rfl, hw⟩ := hw
  obtain ⟨a, st1, rfl, hw1⟩ := pA_inv hw
  obtain ⟨hK, hP, hD, hS, hA, hC, hWd, ho⟩ := hi.2.2.2.1
  cases hv : lk2 nFd r.2.2.2.2.1 i with
  | none => rw [hv] at hw1; exact hw1.elim
  | some q =>
    obtain ⟨ci, k, t, f⟩ := q
    rw [hv] at hw1
    obtain ⟨⟨n, hs⟩, hw1⟩ := hw1
    have hl : a < h.1.length := (List.getElem?_eq_some_iff.mp hs).1
    by_cases h2 : ci = 200
    · subst h2
      have h27 : a ≠ 27 := ref_27 ho hs (by decide)
      have ha28 : a < 28 := by
        rcases Nat.lt_or_ge a 28 with q | q
        · exact q
        · have := ((ho.2.2.2.1 a 200 n hs).1 q).1
          omega
      obtain ⟨c1, c2, c3⟩ := hC.2.2.1 a n ha28 hs
      have h17 : r.2.2.2.2.1 = 17 := by
        have h3 := lk2_all (t := nFd) (P := fun cn e => decide (cn = 17) || !decide (e.2.1 = 200)) (by decide) fd_17 hv
        simpa using h3
      have hown' : s.vm.findClass "java/lang/String" = some m.cls := by rw [h17] at hcn; rw [← Option.some.inj hcn] at hown; exact hown
      rw [h17] at hv
      have h5 := lk2_all (t := nFd) (P := fun cn e => !decide (cn = 17) || (decide (e = (9, 200, 0, 3, true)) || decide (e = (15, 200, 1, 0, true)))) (by decide) fd_18 hv
      simp only [Bool.or_eq_true, decide_eq_true_eq, Bool.not_eq_true', decide_eq_false_iff_not, not_true_eq_false, false_or, Prod.mk.injEq] at h5
      have g := gs_w
      rcases h5 with ⟨rfl, -, rfl, rfl, rfl⟩ | ⟨rfl, -, rfl, rfl, rfl⟩
      · refine W.eq (g2 := F0 m pc la (.ref (ad a) :: st1.map (cv ad fo))) (by rw [List.map_cons, cv_ref h27]) ?_
        refine vk_getf hx hb c3 hS hown' (hts _ (wAt_in g.2.2.2.2.1)) (fun _ q => q) hd ?_
        refine W_top (v := .inr (.inr (h.2.2.1 a 0))) (cvr_rf fun b hb => (ho.2.2.1 a 0 b hb).2) (hg _ _ _ _ _ _ _ _ _ _ hw1 (hi.st (.cons (fun b hb => (ho.2.2.1 a 0 b hb).1) hi.2.2.1.tl)))
      · refine W.eq (g2 := F0 m pc la (.ref (ad a) :: st1.map (cv ad fo))) (by rw [List.map_cons, cv_ref h27]) ?_
        refine vk_getf hx hb c2 hS hown' (hts _ (wAt_in g.2.2.2.2.2)) (fun _ q => q) hd ?_
        exact W_top (v := .inl (h.2.1 a 1)) rfl (hg _ _ _ _ _ _ _ _ _ _ hw1 (hi.st (.cons (ho.2.1 a 1) hi.2.2.1.tl)))
    · obtain ⟨cc, own, ts, f1, f2, f3, f4, f5, f6, f7, f8, f9⟩ := fd_spec hv h2
      dsimp only at f1 f2 f3 f4 f5 f6 f7 f8 f9
      have hlt := nFT_lt f3
      have h28 : 28 ≤ a := ref_28 ho hs (by omega)
      have eo : own = r.1.cls := Option.some.inj (f2.symm.trans hcn)
      subst eo
      have hk : (nWs E ad h)[a - 28]? = some (ad a, .inr (ci, nfs ad h a ts)) := by rw [nWs_get h28 hl, enc_obj hs f3]
      refine W.eq (g2 := F0 m pc la (.ref (ad a) :: st1.map (cv ad fo))) (by rw [List.map_cons, cv_ref (by omega)]) ?_
      refine va_get (D := D) (C := cc.1) (T := cc.2.1) (N := cc.2.2) hx hb hts (cl_in ci cc f1) hown hK hP (a - 28) hk f1 k f6 (hts _ f5) (fun _ q => q) (nfs_get f4) hd ?_
      have hcv : cv ad fo (if t = 3 then .inr (.inr (h.2.2.1 a k)) else if t = 2 then .inr (.inl (h.2.2.2 a k)) else .inl (h.2.1 a k)) = nfv ad h a k t := by
        unfold nfv
        split
        · exact cvr_rf fun b hb => (ho.2.2.1 a k b hb).2
        · split
          · rfl
          · rfl
      have hok : okV h.1.length (if t = 3 then .inr (.inr (h.2.2.1 a k)) else if t = 2 then .inr (.inl (h.2.2.2 a k)) else .inl (h.2.1 a k)) := by
        split
        · exact fun b hb => (ho.2.2.1 a k b hb).1
        · split
          · exact trivial
          · exact ho.2.1 a k
      exact W_top hcv (hg _ _ _ _ _ _ _ _ _ _ hw1 (hi.st (.cons hok hi.2.2.1.tl)))
end SNDH
