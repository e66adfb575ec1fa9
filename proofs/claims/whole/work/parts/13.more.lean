/-! constants, the grid, copies, the library's own -/
theorem st_ok : ((List.range 12).all fun k => decide (nSt[k]? = (nSx[k]?).map (fun q => (q.1, q.2.2)))) = true ∧ nSt.length = 12 ∧ nSx.length = 12 := by decide +kernel
theorem st_mem {i k : Nat} (h : nSt.lookup i = some k) : ∃ tx, (i, tx, k) ∈ nSx := by
  have h1 : (i, k) ∈ nSt := by
    have h2 := lk2_all (t := [nSt]) (c := 0) (i := i) (v := k) (P := fun _ e => decide (e ∈ nSt)) (by decide) (by decide +kernel) h
    simpa using h2
  obtain ⟨j, hj⟩ := List.getElem?_of_mem h1
  have hl := (List.getElem?_eq_some_iff.mp hj).1
  have h3 := List.all_eq_true.mp st_ok.1 j (List.mem_range.mpr (by rw [st_ok.2.1] at hl; exact hl))
  rw [hj] at h3
  cases hx : nSx[j]? with
  | none => rw [hx] at h3; simp at h3
  | some q =>
    rw [hx] at h3
    obtain ⟨q1, q2, q3⟩ := q
    simp only [Option.map_some, decide_eq_true_eq, Option.some.injEq, Prod.mk.injEq] at h3
    obtain ⟨rfl, rfl⟩ := h3
    exact ⟨q2, List.mem_of_getElem? hx⟩
theorem nSx_lt {q : Nat × String × Nat} (h : q ∈ nSx) : q.2.2 < 12 := by
  have h2 : nSx.all (fun q => decide (q.2.2 < 12)) = true := by decide
  simpa using List.all_eq_true.mp h2 q h
theorem okH_alcG {h : Hp} {k n : Nat} (ho : okH h) (hn : n < 2147483648) (hk : k < 2147483648) : okH (alcG h n k) := by
  obtain ⟨o1, o2, o3, o4, o5, o6⟩ := ho
  have hl : (alcG h n k).1.length = h.1.length + (1 + n) := by show (h.1 ++ (112, n) :: List.replicate n (100, k)).length = _; simp; omega
  refine ⟨by omega, fun a i => ?_, fun a i b hb => ?_, fun a k2 n2 hs => ?_, ?_, fun a i n2 hs => ?_⟩
  · show inI (if h.1.length ≤ a then 0 else h.2.1 a i)
    split
    · exact inI_0
    · exact o2 a i
  · have hb : (if a = h.1.length then (if i < n then some (h.1.length + 1 + i) else none) else if h.1.length ≤ a then none else h.2.2.1 a i) = some b := hb
    split at hb
    · split at hb
      · cases hb; omega
      · cases hb
    · split at hb
      · cases hb
      · have := o3 a i b hb
        omega
  · have hs : (h.1 ++ (112, n) :: List.replicate n (100, k))[a]? = some (k2, n2) := hs
    by_cases ha : a < h.1.length
    · rw [List.getElem?_append_left ha] at hs
      exact o4 a k2 n2 hs
    · rw [List.getElem?_append_right (by omega)] at hs
      have hm := List.mem_of_getElem? hs
      refine ⟨fun _ => ?_, fun q => by omega⟩
      rcases List.mem_cons.mp hm with h1 | h1
      · cases h1
        exact ⟨by omega, hn⟩
      · have := List.eq_of_mem_replicate h1
        cases this
        exact ⟨by omega, hk⟩
  · show (h.1 ++ (112, n) :: List.replicate n (100, k))[27]? = _
    rw [List.getElem?_append_left (by omega)]
    exact o5
  · show (if h.1.length ≤ a then 0 else h.2.1 a i) = 0 ∨ (if h.1.length ≤ a then 0 else h.2.1 a i) = 1
    split
    · exact Or.inl rfl
    · have hs : (h.1 ++ (112, n) :: List.replicate n (100, k))[a]? = some (101, n2) := hs
      rw [List.getElem?_append_left (by omega)] at hs
      exact o6 a i n2 hs
section SNDM
variable {p : Program} {l : Launch} {e : Env} {R : Room} {s : State} {m : MethodId} {args : Array Value} {below : List Frame} {meth : Method} {c : Code} {Qw : State → Prop} {fo : Option Nat} {E : Nat → ClassId} {D : va_G} {A : Nat → Prop} {n0 : Nat} {ad0 : Nat → Nat} {nL : Nat}
variable {K : Nat → Lc → List Vl → Hp → Nat → Nat → Prop} {C : Nat → Lc → Hp → (Option Vl → Hp → Prop) → Prop} {r : MR} {pc len : Nat} {ls : Lc} {st : List Vl} {h h' : Hp} {cs sl : Nat} {Q : Option Vl → Hp → Prop} {la : Array Slot} {H H1 : Heap} {locs locs1 : List Loc} {ad ad2 : Nat → Nat}
theorem s_ldc {i : Nat} (hx : p.tables.exec = Jvm.exec) (hb : c.code = r.2.1) (hg : Gw p l e R s m args below meth c Qw fo E D A n0 ad0 nL K) (hown : s.vm.findClass r.1.cls = some m.cls) (hcn : nCn[r.2.2.2.2.1]? = some r.1.cls) (hd : decode r.2.1 pc = .ok (.ldc i, len)) (hw : stepF K C r pc len (.ldc i) ls st h cs sl Q) (hi : Inv fo E D A n0 ad0 s nL ls st h la H locs ad) : W p l e R s m args below meth c H locs cs sl Qw (F0 m pc la (st.map (cv ad fo))) := by
  obtain ⟨rfl, hw⟩ := hw
  obtain ⟨hK, hP, hD, hS, hA, hC, hWd, ho⟩ := id hi.2.2.2.1
  have h28 := ho.1
  split at hw
  · rename_i k h9 hk
    rw [h9] at hcn
    have hown' : s.vm.findClass "NumberedText$Reader" = some m.cls := by rw [← Option.some.inj hcn] at hown; exact hown
    obtain ⟨tx, hm⟩ := st_mem hk
    have hlt := nSx_lt hm
    dsimp only at hlt
    refine va_ldcS hx hb hown' (hWd.2.2.2.2 _ hm) hd ?_
    exact W_top (v := .inr (.inr (some (3 + k)))) (cv_ref (by omega)) (hg _ _ _ _ _ _ _ _ _ _ hw (hi.st (.cons (fun a ha => by cases ha; omega) hi.2.2.1)))
  · exact hw.elim
theorem s_ldc2 {i : Nat} (hx : p.tables.exec = Jvm.exec) (hb : c.code = r.2.1) (hg : Gw p l e R s m args below meth c Qw fo E D A n0 ad0 nL K) (hown : s.vm.findClass r.1.cls = some m.cls) (hts : ∀ w ∈ nW0, w.before args s = true) (hcn : nCn[r.2.2.2.2.1]? = some r.1.cls) (hd : decode r.2.1 pc = .ok (.ldc2_w i, len)) (hw : stepF K C r pc len (.ldc2_w i) ls st h cs sl Q) (hi : Inv fo E D A n0 ad0 s nL ls st h la H locs ad) : W p l e R s m args below meth c H locs cs sl Qw (F0 m pc la (st.map (cv ad fo))) := by
  obtain ⟨rfl, hw⟩ := hw
  cases hv : lk2 nC2 r.2.2.2.2.1 i with
  | none => rw [hv] at hw; exact hw.elim
  | some x =>
    rw [hv] at hw
    have h3 := lk2_all (t := nC2) (P := fun cn e => chkC2 cn e.1 e.2) (by decide) c2_all hv
    simp only [chkC2] at h3
    split at h3
    · rename_i own ps ho1 ho2
      have eo : own = r.1.cls := Option.some.inj (ho1.symm.trans hcn)
      subst eo
      refine lv_ldc2 hx hb hown (hts _ (wAt_in h3)) hd ?_
      exact W_top (v := .inr (.inl x)) rfl (hg _ _ _ _ _ _ _ _ _ _ hw (hi.st (.cons trivial hi.2.2.1)))
    · cases h3
theorem s_multi {i d : Nat} (hx : p.tables.exec = Jvm.exec) (hb : c.code = r.2.1) (hR1 : R.cells = r.2.2.2.2.2.2.2.1) (hR2 : R.slots = r.2.2.2.2.2.2.2.2.1) (hg : Gw p l e R s m args below meth c Qw fo E D A n0 ad0 nL K) (hown : s.vm.findClass r.1.cls = some m.cls) (hts : ∀ w ∈ nW0, w.before args s = true) (hcn : nCn[r.2.2.2.2.1]? = some r.1.cls) (hd : decode r.2.1 pc = .ok (.multianewarray i d, len)) (hw : stepF K C r pc len (.multianewarray i d) ls st h cs sl Q) (hi : Inv fo E D A n0 ad0 s nL ls st h la H locs ad) : W p l e R s m args below meth c H locs cs sl Qw (F0 m pc la (st.map (cv ad fo))) := by
  obtain ⟨rfl, rfl, rfl, h0, hw⟩ := hw
  obtain ⟨k, st1, rfl, hw1⟩ := pI_inv hw
  obtain ⟨n, st2, rfl, hn0, hn1, hk0, hk1, g1, g2, hw2⟩ := pI_inv hw1
  obtain ⟨hK, hP, hD, hS, hA, hC, hWd, ho⟩ := id hi.2.2.2.1
  have h28 := ho.1
  rw [h0] at hcn
  have hown' : s.vm.findClass "NumberedText" = some m.cls := by rw [← Option.some.inj hcn] at hown; exact hown
  have ik : inI k := hi.2.2.1.hd
  have iN : inI n := hi.2.2.1.tl.hd
  have hnegn : ¬ Int32.ofInt n < 0 := by
    rw [Int32.lt_iff_toInt_lt, inI_of iN]
    show ¬ n < 0
    omega
  have hnegk : ¬ Int32.ofInt k < 0 := by
    rw [Int32.lt_iff_toInt_lt, inI_of ik]
    show ¬ k < 0
    omega
  have w := ac_w
  have hcy : s.vm.findClass (FieldType.array .int).toString = some (E 100) := (hK.2 0 _ rfl).2
  refine va_mna (X := nWs E ad h) (L := []) (f := fun _ => .inr (0, [])) (ty := .int) (cy := E 100) (z := (k.toNat, .inl (fun _ => 0))) hx hb hown' (hts _ (wAt_in w.2.2.2)) hWd.2.2.2.1 (hts _ (wAt_in w.1)) hcy hK (by show va_P D nCl (nWs E ad h ++ []) H; rw [List.append_nil]; exact hP) (by show va_D A (nWs E ad h ++ []); rw [List.append_nil]; exact hD) hS hA hnegn hnegk (ix_cl iN) (ix_cl ik) (by omega) (by show k.toNat * 4 ≤ _; omega) (by omega) rfl rfl (by rw [hR1]; exact g1) (by rw [hR2]; exact g2) (fun c9 => arrV_new c9 _ _) hd (fun q rr cA H1 hinj hnl k0 k1 k2 k3 => ?_)
  have hcA : cA = E 112 := ra_one (t0 := 5) (ra_last k0) hK rfl
  subst hcA
  have he : Ext h (alcG h n.toNat k.toNat) ad (fun b => if b = h.1.length then q else if h.1.length ≤ b then rr (b - h.1.length - 1) else ad b) ((112, n.toNat) :: List.replicate n.toNat (100, k.toNat)) := by
    refine ⟨rfl, fun b i hb => ?_, fun b hb => ?_⟩
    · have e1 : b ≠ h.1.length := by omega
      have e2 : ¬ h.1.length ≤ b := by omega
      refine ⟨if_neg e2, ?_, if_neg e2⟩
      show (if b = h.1.length then _ else if h.1.length ≤ b then none else h.2.2.1 b i) = _
      rw [if_neg e1, if_neg e2]
    · have e1 : b ≠ h.1.length := by omega
      have e2 : ¬ h.1.length ≤ b := by omega
      show (if b = h.1.length then q else if h.1.length ≤ b then rr (b - h.1.length - 1) else ad b) = _
      rw [if_neg e1, if_neg e2]
  generalize had : (fun b => if b = h.1.length then q else if h.1.length ≤ b then rr (b - h.1.length - 1) else ad b) = ad2 at he
  have hq : ad2 h.1.length = q := by rw [← had]; exact if_pos rfl
  have hrr : ∀ j, ad2 (h.1.length + 1 + j) = rr j := fun j => by
    rw [← had]
    show (if h.1.length + 1 + j = h.1.length then q else if h.1.length ≤ h.1.length + 1 + j then rr (h.1.length + 1 + j - h.1.length - 1) else _) = _
    rw [if_neg (by omega), if_pos (by omega), show h.1.length + 1 + j - h.1.length - 1 = j by omega]
  have hl : (alcG h n.toNat k.toNat).1.length = h.1.length + (1 + n.toNat) := by show (h.1 ++ (112, n.toNat) :: List.replicate n.toNat (100, k.toNat)).length = _; simp; omega
  have hs0 : (alcG h n.toNat k.toNat).1[h.1.length]? = some (112, n.toNat) := by
    show (h.1 ++ (112, n.toNat) :: List.replicate n.toNat (100, k.toNat))[h.1.length]? = _
    rw [List.getElem?_append_right (Nat.le_refl _), Nat.sub_self]
    rfl
  have hs1 : ∀ j, j < n.toNat → (alcG h n.toNat k.toNat).1[h.1.length + 1 + j]? = some (100, k.toNat) := fun j hj => by
    show (h.1 ++ (112, n.toNat) :: List.replicate n.toNat (100, k.toNat))[h.1.length + 1 + j]? = _
    rw [List.getElem?_append_right (by omega), show h.1.length + 1 + j - h.1.length = j + 1 by omega, List.getElem?_cons_succ, List.getElem?_replicate, if_pos hj]
  have e1 := nWs_ext (E := E) he ho
  have eo : enc E ad2 (alcG h n.toNat k.toNat) h.1.length = .inl (E 112, n.toNat, .inr (.inr (.inr (.inr (fun i => if i < n.toNat then some (rr i) else none))))) := by
    rw [enc_q hs0 (by omega)]
    congr 7
    funext j
    show Option.map ad2 (if h.1.length = h.1.length then (if j < n.toNat then some (h.1.length + 1 + j) else none) else _) = _
    rw [if_pos rfl]
    split
    · show some (ad2 (h.1.length + 1 + j)) = _
      rw [hrr]
    · rfl
  have ei : ∀ j, j < n.toNat → enc E ad2 (alcG h n.toNat k.toNat) (h.1.length + 1 + j) = .inl (E 100, k.toNat, .inl (fun _ => 0)) := fun j hj => by
    rw [enc_i (hs1 j hj)]
    congr 4
    funext i9
    show Int32.ofInt (if h.1.length ≤ h.1.length + 1 + j then 0 else _) = 0
    rw [if_pos (by omega)]
    rfl
  have e2 : (List.range ((112, n.toNat) :: List.replicate n.toNat (100, k.toNat)).length).map (fun j => (ad2 (h.1.length + j), enc E ad2 (alcG h n.toNat k.toNat) (h.1.length + j))) = (q, .inl (E 112, n.toNat, .inr (.inr (.inr (.inr (fun i => if i < n.toNat then some (rr i) else none)))))) :: (List.range n.toNat).map (fun j => (rr j, .inl (E 100, k.toNat, .inl (fun _ => 0)))) := by
    rw [List.length_cons, List.length_replicate, List.range_succ_eq_map, List.map_cons, List.map_map]
    congr 1
    · rw [Nat.add_zero, eo, hq]
    · apply List.map_congr_left
      intro j hj
      have hj := List.mem_range.mp hj
      show (ad2 (h.1.length + (j + 1)), enc E ad2 (alcG h n.toNat k.toNat) (h.1.length + (j + 1))) = _
      rw [show h.1.length + (j + 1) = h.1.length + 1 + j by omega, hrr, ei j hj]
  rw [e2] at e1
  have e3 : (nWs E ad h ++ [(q, .inl (E 112, n.toNat, .inr (.inr (.inr (.inr (fun i => if i < n.toNat then some (rr i) else none))))))]) ++ va_pl ([] ++ (List.range n.toNat).map rr) (vr_up (fun _ => .inr (0, [])) ((List.range n.toNat).map rr) (.inl (E 100, (k.toNat, .inl (fun _ => 0))))) = nWs E ad2 (alcG h n.toNat k.toNat) := by
    rw [e1, List.append_assoc]
    congr 1
    rw [List.nil_append]
    show _ :: va_pl _ _ = _
    congr 1
    unfold va_pl
    rw [List.map_map]
    apply List.map_congr_left
    intro j hj
    show (rr j, vr_up _ _ _ (rr j)) = _
    rw [vr_up_in (List.mem_map.mpr ⟨j, hj, rfl⟩)]
  rw [e3] at k1 k2
  have := hg _ _ _ _ _ _ _ _ _ _ hw2 (hi.ext (H1 := H1) (locs1 := locs) he (okH_alcG ho (by omega) (by omega)) (.cons (fun a ha => by cases ha; omega) (hi.2.2.1.tl.tl.mono (by omega))) k1 k2 k3)
  rw [List.map_cons, cvs_ext he.2.2 hi.2.2.1.tl.tl, cv_ref (by omega), hq] at this
  exact this
theorem s_copy {i : Nat} (hx : p.tables.exec = Jvm.exec) (hb : c.code = r.2.1) (hml : c.maxLocals = nL) (hR3 : R.frames = r.2.2.2.2.2.1) (hR4 : R.locals = r.2.2.2.2.2.2.1) (hg : Gw p l e R s m args below meth c Qw fo E D A n0 ad0 nL K) (hown : s.vm.findClass r.1.cls = some m.cls) (hts : ∀ w ∈ nW0, w.before args s = true) (hcn : nCn[r.2.2.2.2.1]? = some r.1.cls) (hd : decode r.2.1 pc = .ok (.invokestatic i, 3)) (hv : lk2 nCp r.2.2.2.2.1 i = some ())
    (hw : pI st fun n st => pI st fun dp st => pA st fun b st => pI st fun sp st => pA st fun a st => 1 ≤ r.2.2.2.2.2.1 ∧ csum st + 64 ≤ r.2.2.2.2.2.2.1 ∧ 0 ≤ n ∧ 0 ≤ dp ∧ 0 ≤ sp ∧ 28 ≤ a ∧ 28 ≤ b ∧ (∃ n0 n1, h.1[a]? = some (100, n0) ∧ h.1[b]? = some (100, n1) ∧ sp + n ≤ n0 ∧ dp + n ≤ n1) ∧ K (pc + 3) ls st (cpyI h a b sp.toNat dp.toNat n.toNat) cs sl) (hi : Inv fo E D A n0 ad0 s nL ls st h la H locs ad) : W p l e R s m args below meth c H locs cs sl Qw (F0 m pc la (st.map (cv ad fo))) := by
  obtain ⟨n, st1, rfl, hw1⟩ := pI_inv hw
  obtain ⟨dp, st2, rfl, hw2⟩ := pI_inv hw1
  obtain ⟨b, st3, rfl, hw3⟩ := pA_inv hw2
  obtain ⟨sp, st4, rfl, hw4⟩ := pI_inv hw3
  obtain ⟨a, st5, rfl, g1, g2, hn0, hd0, hs0, ha28, hb28, ⟨na, nb, hsa, hsb, hsn, hdn⟩, hw5⟩ := pA_inv hw4
  obtain ⟨hK, hP, hD, hS, hA, hC, hWd, ho⟩ := id hi.2.2.2.1
  have h3 := lk2_all (t := nCp) (P := fun cn e => chkCp cn e.1) (by decide) cp_all hv
  simp only [chkCp] at h3
  split at h3
  · rename_i own ps ho1 ho2
    have eo : own = r.1.cls := Option.some.inj (ho1.symm.trans hcn)
    subst eo
    have w := cp_w
    have okn : inI n := hi.2.2.1.hd
    have okd : inI dp := hi.2.2.1.tl.hd
    have oks : inI sp := hi.2.2.1.tl.tl.tl.hd
    have hla : a < h.1.length := (List.getElem?_eq_some_iff.mp hsa).1
    have hlb : b < h.1.length := (List.getElem?_eq_some_iff.mp hsb).1
    have hqa := nWs_get (E := E) (ad := ad) ha28 hla
    rw [enc_i hsa] at hqa
    have hqb := nWs_get (E := E) (ad := ad) hb28 hlb
    rw [enc_i hsb] at hqb
    have neg : ∀ {z : Int}, inI z → 0 ≤ z → ¬ Int32.ofInt z < 0 := fun {z} hz h0 => by
      rw [Int32.lt_iff_toInt_lt, inI_of hz]
      show ¬ z < 0
      omega
    refine W.eq (g2 := F0 m pc la (.int (Int32.ofInt n) :: .int (Int32.ofInt dp) :: .ref (ad b) :: .int (Int32.ofInt sp) :: .ref (ad a) :: st5.map (cv ad fo))) (by rw [List.map_cons, List.map_cons, List.map_cons, List.map_cons, List.map_cons, cv_ref (by omega), cv_ref (by omega)]; rfl) ?_
    refine va_copyi (ty := .int) hx hb (by rw [hml]; exact hi.1.1.1.symm) hown (hts _ (wAt_in h3)) (hts _ (wAt_in w.1)) (hts _ (wAt_in w.2.1)) (hts _ (wAt_in w.2.2)) hK hP hD hS (a - 28) (b - 28) 0 0 hqa hqb rfl rfl rfl (neg oks hs0) (neg okd hd0) (neg okn hn0) (by rw [ix_cl oks, ix_cl okn]; omega) (by rw [ix_cl okd, ix_cl okn]; omega) (fun _ _ => rfl) (by rw [hR3]; exact g1) ?_ hd (fun H1 locs1 k1 k2 k3 => ?_)
    · rw [csum_cv, hR4]
      have : nativeFrameWords "java/lang/System" "arraycopy" 5 = 7 := by decide
      omega
    · have hok : okH (cpyI h a b sp.toNat dp.toNat n.toNat) := by
        obtain ⟨o1, o2, o3, o4, o5, o6⟩ := ho
        refine ⟨o1, fun c9 i9 => ?_, o3, o4, o5, fun c9 i9 n9 h9 => ?_⟩
        · show inI (if _ then _ else _)
          split
          · exact o2 _ _
          · exact o2 _ _
        · show (if c9 = b ∧ dp.toNat ≤ i9 ∧ i9 < dp.toNat + n.toNat then h.2.1 a (sp.toNat + (i9 - dp.toNat)) else h.2.1 c9 i9) = 0 ∨ (if c9 = b ∧ dp.toNat ≤ i9 ∧ i9 < dp.toNat + n.toNat then h.2.1 a (sp.toNat + (i9 - dp.toNat)) else h.2.1 c9 i9) = 1
          have hcb : c9 ≠ b := by
            rintro rfl
            have h9' : h.1[c9]? = some (101, n9) := h9
            rw [hsb] at h9'
            cases h9'
          rw [if_neg (fun q => hcb q.1)]
          exact o6 c9 i9 n9 h9
      refine hg _ _ _ _ _ _ _ _ _ _ hw5 (hi.hp rfl hi.2.2.1.tl.tl.tl.tl.tl (nW_put hi.2.2.2.1 hb28 rfl (fun b9 j hb9 => if_neg (fun q => hb9 q.1)) (fun b j _ => rfl) (fun b j _ => rfl) hok ?_ k1 k2 k3))
      rw [enc_i (h := cpyI h a b sp.toNat dp.toNat n.toNat) hsb, ix_cl oks, ix_cl okd, ix_cl okn]
      congr 4
      funext j
      show Int32.ofInt (if b = b ∧ dp.toNat ≤ j ∧ j < dp.toNat + n.toNat then _ else _) = va_cpy _ _ _ _ _ j
      unfold va_cpy
      by_cases e : dp.toNat ≤ j ∧ j < dp.toNat + n.toNat
      · rw [if_pos ⟨rfl, e⟩, if_pos e]
      · rw [if_neg (fun q => e q.2), if_neg e]
  · cases h3
theorem s_abs {i : Nat} (hx : p.tables.exec = Jvm.exec) (hb : c.code = r.2.1) (hml : c.maxLocals = nL) (hR1 : R.cells = r.2.2.2.2.2.2.2.1) (hR2 : R.slots = r.2.2.2.2.2.2.2.2.1) (hR3 : R.frames = r.2.2.2.2.2.1) (hR4 : R.locals = r.2.2.2.2.2.2.1) (hg : Gw p l e R s m args below meth c Qw fo E D A n0 ad0 nL K) (hown : s.vm.findClass r.1.cls = some m.cls) (hts : ∀ w ∈ nW0, w.before args s = true) (hcn : nCn[r.2.2.2.2.1]? = some r.1.cls) (hd : decode r.2.1 pc = .ok (.invokestatic i, 3)) (hv : lk2 nAb r.2.2.2.2.1 i = some ())
    (hw : pI st fun x st => 1 ≤ r.2.2.2.2.2.1 ∧ csum st + 13 ≤ r.2.2.2.2.2.2.1 ∧ cs ≤ r.2.2.2.2.2.2.2.1 ∧ sl ≤ r.2.2.2.2.2.2.2.2.1 ∧ K (pc + 3) ls (.inl (if (0 : Int32) ≤ Int32.ofInt x then Int32.ofInt x else 0 - Int32.ofInt x).toInt :: st) h cs sl) (hi : Inv fo E D A n0 ad0 s nL ls st h la H locs ad) : W p l e R s m args below meth c H locs cs sl Qw (F0 m pc la (st.map (cv ad fo))) := by
  obtain ⟨x, st1, rfl, g1, g2, g3, g4, hw1⟩ := pI_inv hw
  have h3 := lk2_all (t := nAb) (P := fun cn e => decide (cn = 5 ∧ e.1 = 161)) (by decide) (by decide +kernel) hv
  simp only [decide_eq_true_eq] at h3
  obtain ⟨h5, rfl⟩ := h3
  rw [h5] at hcn
  have w := ab_w
  have eo : r.1.cls = "NumberedText$Setting" := (Option.some.inj (w.1.symm.trans hcn)).symm
  rw [eo] at hown
  refine va_mabs hx hb (by rw [hml]; exact hi.1.1.1.symm) hown (hts _ (wAt_in w.2.1)) (hts _ (wAt_in w.2.2.1)) (hts _ (wAt_in w.2.2.2.1)) (hts _ (wAt_in w.2.2.2.2)) (by rw [hR3]; exact g1) (by rw [csum_cv, hR4]; exact g2) (by rw [hR1]; exact g3) (by rw [hR2]; exact g4) hd ?_
  exact W_top (cv_i _ _ _) (hg _ _ _ _ _ _ _ _ _ _ hw1 (hi.st (.cons (okV_i _ _) hi.2.2.1.tl)))
theorem s_objinit {i : Nat} (hx : p.tables.exec = Jvm.exec) (hb : c.code = r.2.1) (hml : c.maxLocals = nL) (hR3 : R.frames = r.2.2.2.2.2.1) (hR4 : R.locals = r.2.2.2.2.2.2.1) (hg : Gw p l e R s m args below meth c Qw fo E D A n0 ad0 nL K) (hown : s.vm.findClass r.1.cls = some m.cls) (hts : ∀ w ∈ nW0, w.before args s = true) (hcn : nCn[r.2.2.2.2.1]? = some r.1.cls) (hd : decode r.2.1 pc = .ok (.invokespecial i, 3)) (hv : lk2 nOi r.2.2.2.2.1 i = some ())
    (hw : pA st fun a st => a ≠ 27 ∧ 1 ≤ r.2.2.2.2.2.1 ∧ csum st + 12 ≤ r.2.2.2.2.2.2.1 ∧ K (pc + 3) ls st h cs sl) (hi : Inv fo E D A n0 ad0 s nL ls st h la H locs ad) : W p l e R s m args below meth c H locs cs sl Qw (F0 m pc la (st.map (cv ad fo))) := by
  obtain ⟨a, st1, rfl, ha, g1, g2, hw1⟩ := pA_inv hw
  have h3 := lk2_all (t := nOi) (P := fun cn e => chkOi cn e.1) (by decide) oi_all hv
  simp only [chkOi] at h3
  split at h3
  · rename_i own ps ho1 ho2
    have eo : own = r.1.cls := Option.some.inj (ho1.symm.trans hcn)
    subst eo
    have w := oi_w
    refine W.eq (g2 := F0 m pc la (.ref (ad a) :: st1.map (cv ad fo))) (by rw [List.map_cons, cv_ref ha]) ?_
    refine W.objInit hx hb hown (hts _ (wAt_in h3)) (hts _ (wAt_in w.1)) (hts _ (wAt_in w.2)) rfl (by rw [hml]; exact hi.1.1.1) rfl hd (by rw [hR3]; exact g1) ?_ ?_
    · show 2 * 0 + _ + 12 ≤ _
      rw [csum_cv, hR4]
      omega
    · exact hg _ _ _ _ _ _ _ _ _ _ hw1 (hi.st hi.2.2.1.tl)
  · cases h3
end SNDM
