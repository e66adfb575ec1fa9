/-! calls -/
theorem nV_blind {fo : Option Nat} {E : Nat → ClassId} {D : va_G} {ad : Nat → Nat} {h : Hp} {sz : Nat} {as : List Value} : FrameBlind (va_Pc as (nV fo E D ad h sz)) := by
  intro a U g mk q
  obtain ⟨q0, q1, q2, q3, q4, q5, q6, q7⟩ := q
  have hal : U.vm.Alike (U.calling g mk a).vm := Vm.Alike.refl U.vm
  exact ⟨q0, q1, q2, va_K.moved hal q3, q4, nCs_moved (u := U) (U := U.calling g mk a) hal (fun _ _ _ => rfl) (fun _ z => z) q5, nWd_vm (s := U) (U := U.calling g mk a) rfl q6, q7⟩
theorem nW_free {fo : Option Nat} {E : Nat → ClassId} {D : va_G} {ad : Nat → Nat} {h : Hp} {A : Nat → Prop} {s : State} {H : Heap} {locs : List Loc} (w : nW fo E D ad h A s H locs) : ∀ q, va_A (nWs E ad h) H.size q → A q := by
  obtain ⟨hK, hP, hD, hS, hA, hC, hWd, ho⟩ := w
  intro q hq
  rcases hq with ⟨k, e, hk⟩ | hq
  · exact hD.2 k (q, e) hk
  · exact hA q (Nat.le_trans hS.1 hq)
theorem nV_of {fo : Option Nat} {E : Nat → ClassId} {D : va_G} {ad : Nat → Nat} {h : Hp} {A : Nat → Prop} {s U : State} {H : Heap} {locs : List Loc} (w : nW fo E D ad h A s H locs) (hU : U.heap = H) (hW : s.WarmedH U.vm) : nV fo E D ad h H.size U := by
  have hf := nW_free w
  obtain ⟨hK, hP, hD, hS, hA, hC, hWd, ho⟩ := w
  subst hU
  exact ⟨rfl, hP, va_K.moved hW.alike hK, hD.weaken (fun _ _ _ _ => trivial), nCs_moved hW.alike hS.2.1 hf hC, nWd_warm hW hWd, ho⟩
theorem CK_ok {h : Hp} (ho : okH h) : CK h := ⟨ho.1, fun a k n ha hs => by have := ((ho.2.2.2.1 a k n hs).2 ha).1; omega⟩
section SNDC
variable {p : Program} {l : Launch} {e : Env} {R : Room} {s : State} {m : MethodId} {args : Array Value} {below : List Frame} {meth : Method} {c : Code} {Qw : State → Prop} {fo : Option Nat} {E : Nat → ClassId} {D : va_G} {A : Nat → Prop} {n0 : Nat} {ad0 : Nat → Nat}
variable {K : Nat → Lc → List Vl → Hp → Nat → Nat → Prop} {r r2 : MR} {pc n j2 k i : Nat} {ls : Lc} {st : List Vl} {h : Hp} {cs sl : Nat} {la : Array Slot} {H : Heap} {locs : List Loc} {ad : Nat → Nat}
/-- behind a call -/
theorem go_run {a : Array Value} {Q2 : Option Vl → Hp → Prop} {rest : List Vl} {st0 : List Value} (hg : Gw p l e R s m args below meth c Qw fo E D A n0 ad0 r.2.2.1 K) (hi : Inv fo E D A n0 ad0 s r.2.2.1 ls st h la H locs ad) (hrest : okSt h.1.length rest)
    (hQ : ∀ v h2, Q2 v h2 → SameC h h2 ∧ K (pc + 3) ls (v.toList ++ rest) h2 (cs + r2.2.2.2.2.2.2.2.1) (sl + r2.2.2.2.2.2.2.2.2.1))
    (hr : va_Run p l e R s m args below meth c H locs cs sl r2.2.2.2.2.2.2.2.1 r2.2.2.2.2.2.2.2.2.1 (F0 m pc la st0) (rest.map (cv ad fo)) (nQ fo E D ad h H.size Q2 a) (va_A (nWs E ad h) H.size)) : W p l e R s m args below meth c H locs cs sl Qw (F0 m pc la st0) := by
  intro T hT X
  obtain ⟨v, st₀, t, T', L, h0, X', hL, e1, e2, ⟨v2, h2, ad2, hv, hq, hvo, hle, had, hP2, hD2, ho2, hz, hk⟩, stp⟩ := hr T hT X
  cases hv
  rw [h0] at hz hk
  obtain ⟨hsame, hkk⟩ := hQ v2 h2 hq
  have hfree := nW_free hi.2.2.2.1
  obtain ⟨⟨i1, i2⟩, i3, i4, ⟨hK, hP, hD, hS, hA, hC, hWd, ho⟩, i5, i6⟩ := id hi
  have h28 := ho.1
  have hS2 : va_S A s.heap T'.heap (locs ++ L) := ⟨Nat.le_trans hS.1 (by rw [e1]; exact hz), fun q g1 g2 => by
      rw [e1, hk q (Nat.lt_of_lt_of_le g1 hS.1) (fun z => g2 (hfree q z))]
      exact hS.2.1 q g1 g2, fun q hq => by
      rcases List.mem_append.mp hq with h9 | h9
      · exact hS.2.2 q h9
      · exact hfree _ (hL q h9)⟩
  have hnw : nW fo E D ad2 h2 A s T'.heap (locs ++ L) := by
    refine ⟨hK, by rw [e1]; exact hP2, hD2.weaken (fun _ q _ z => hfree q.1 z), hS2, hA, ?_, nWd_ext (fun b hb => had b (by omega)) hWd, ho2⟩
    have c1 : nCs fo ad2 h A s s.heap := nCs_ext (h2 := h) (xs := []) ⟨(List.append_nil _).symm, fun _ _ _ => ⟨rfl, rfl, rfl⟩, had⟩ ho hC
    exact nCs_congr c1 (fun b hb => hsame.sh (by omega)) (fun b i hb => (hsame.2 b i hb).1) (fun b i hb => (hsame.2 b i hb).2)
  have hst2 : okSt h2.1.length (v2.toList ++ rest) := by
    intro x hx
    rcases List.mem_append.mp hx with q | q
    · cases v2 with
      | none => cases q
      | some y => cases List.mem_singleton.mp q; exact hvo _ rfl
    · exact (hrest x q).mono hle
  have hinv : Inv fo E D A n0 ad0 s r.2.2.1 ls (v2.toList ++ rest) h2 la T'.heap (locs ++ L) ad2 := ⟨⟨i1.mono (cvL_ext had i3), i2⟩, i3.mono hle, hst2, hnw, Nat.le_trans i5 hle, fun a ha => by rw [had a (by omega)]; exact i6 a ha⟩
  have hW := hg _ _ _ _ _ _ _ _ _ _ hkk hinv
  have es : (v2.toList ++ rest).map (cv ad2 fo) = (v2.map (cv ad2 fo)).toList ++ rest.map (cv ad fo) := by
    rw [List.map_append, cvs_ext had hrest]
    congr 1
    cases v2 <;> rfl
  rw [es] at hW
  obtain ⟨t2, a1, b1⟩ := hW T' rfl X'
  exact ⟨t2, stp t2 a1, b1⟩
theorem take_ok {n : Nat} (h : okSt n st) : okSt n (st.take k).reverse ∧ okSt n (st.drop k) := ⟨fun v hv => h v (List.mem_of_mem_take (List.mem_reverse.mp hv)), fun v hv => h v (List.mem_of_mem_drop hv)⟩
theorem take_map : st.map (cv ad fo) = (((st.take k).reverse).map (cv ad fo)).reverse ++ (st.drop k).map (cv ad fo) := by
  rw [← List.map_reverse, List.reverse_reverse, ← List.map_append, List.take_append_drop]
theorem csum_rev (as : List Vl) : csum as.reverse = csum as := by
  unfold csum
  rw [List.map_reverse, List.sum_reverse]
theorem good_ws (hM : MOk r2) : GoodIn nW0 (Cond.code r2.1 r2.2.1 r2.2.2.1 r2.2.2.2.1 :: nW0) := by
  intro w hw
  rcases List.mem_cons.mp hw with rfl | hw
  · exact ⟨hM.1, w0_good _ hM.1⟩
  · exact ⟨hw, w0_good _ hw⟩
theorem s_callS (ih : Snd l n) (hF : FrC p s m args meth c R r) (hg : Gw p l e R s m args below meth c Qw fo E D A n0 ad0 r.2.2.1 K) (hj : mrec j2 = some r2) (hM : MOk r2) (hfl : r2.2.2.2.2.2.2.2.2.2.2 = 0) (hlink : Cond.methodLink r.1.cls i r2.1 ∈ nW0) (hd : decode r.2.1 pc = .ok (.invokestatic i, 3))
    (hw : callT (fun j2 ls h Q2 => wp n j2 0 ls [] h 0 0 Q2) (fun st h cs sl => K (pc + 3) ls st h cs sl) r j2 r2 r2.2.2.2.2.2.2.2.2.2.1 st h cs sl) (hi : Inv fo E D A n0 ad0 s r.2.2.1 ls st h la H locs ad) : W p l e R s m args below meth c H locs cs sl Qw (F0 m pc la (st.map (cv ad fo))) := by
  obtain ⟨hx, hb, hml, hown, hts, hcn, hin, hR1, hR2, hR3, hR4⟩ := hF
  obtain ⟨hlen, hcs, ⟨g1, g2, g3, g4, g5⟩, hw⟩ := hw
  generalize hk : r2.2.2.2.2.2.2.2.2.2.1 = k at hlen hcs g1 hw
  obtain ⟨q9, hq9⟩ := hM.2
  obtain ⟨m1, m2, m3, m4, m5, m6, m7, m8, m9⟩ := chkM_spec hq9
  have hwp := wp_same (Q2 := fun v h2 => SameC h h2 ∧ K (pc + 3) ls (v.toList ++ st.drop k) h2 (cs + r2.2.2.2.2.2.2.2.1) (sl + r2.2.2.2.2.2.2.2.2.1)) (CK_ok hi.2.2.2.1.2.2.2.2.2.2.2) (fun v h2 hs q => ⟨hs, q⟩) hw
  obtain ⟨hok1, hok2⟩ := take_ok (k := k) hi.2.2.1
  have hmet := met_of ih hj hM hwp hok1 (by rw [csum_rev]; exact hcs) fo E D ad H.size
  refine go_run (r := r) (r2 := r2) hg hi hok2 (fun v h2 q => q) (va_runS (As := (st.take k).reverse.map (cv ad fo)) ⟨hx, hb, hml, hown, hts⟩ hmet ⟨callB_of (own := r.1.cls) (index := i) k hts (good_ws hM) rfl rfl rfl (hts _ m1) (hts _ hlink) ⟨m5, m6, by rw [m3, hk]⟩ ⟨by rw [hR3]; exact g2, by rw [hR4]; exact g3⟩, hts _ (m7 hfl)⟩ ⟨nV_blind, fun U hU hW => ⟨rfl, nV_of hi.2.2.2.1 hU hW⟩⟩ rfl (by simp; omega) hi.1.1.1 take_map (lv_room (by rw [csum_cv]; exact g1)) hd ⟨by rw [hR1]; exact g4, by rw [hR2]; exact g5⟩)
theorem head_drop {a : Nat} {v : Vl} (h : (st.drop a).head? = some v) : st.take (a + 1) = st.take a ++ [v] ∧ a < st.length := by
  have h1 : st[a]? = some v := by rw [List.head?_drop] at h; exact h
  have hl := (List.getElem?_eq_some_iff.mp h1).1
  refine ⟨?_, hl⟩
  rw [List.take_succ, h1]
  rfl
theorem s_callV {a nn : Nat} (ih : Snd l n) (hF : FrC p s m args meth c R r) (hg : Gw p l e R s m args below meth c Qw fo E D A n0 ad0 r.2.2.1 K) (hj : mrec j2 = some r2) (hM : MOk r2) (hfl : r2.2.2.2.2.2.2.2.2.2.2 = 1) (hlink : Cond.methodLink r.1.cls i r2.1 ∈ nW0) (hd : decode r.2.1 pc = .ok (.invokevirtual i, 3)) (hrec : (st.drop r2.2.2.2.2.2.2.2.2.2.1).head? = some (.inr (.inr (some a)))) (hkind : h.1[a]? = some (rkd r2.2.2.2.2.1, nn))
    (hw : callT (fun j2 ls h Q2 => wp n j2 0 ls [] h 0 0 Q2) (fun st h cs sl => K (pc + 3) ls st h cs sl) r j2 r2 (r2.2.2.2.2.2.2.2.2.2.1 + 1) st h cs sl) (hi : Inv fo E D A n0 ad0 s r.2.2.1 ls st h la H locs ad) : W p l e R s m args below meth c H locs cs sl Qw (F0 m pc la (st.map (cv ad fo))) := by
  obtain ⟨hx, hb, hml, hown, hts, hcn, hin, hR1, hR2, hR3, hR4⟩ := hF
  obtain ⟨hlen, hcs, ⟨g1, g2, g3, g4, g5⟩, hw⟩ := hw
  generalize hk : r2.2.2.2.2.2.2.2.2.2.1 = k at hlen hcs g1 hw hrec
  obtain ⟨q9, hq9⟩ := hM.2
  obtain ⟨m1, m2, m3, m4, m5, m6, m7, m8, m9⟩ := chkM_spec hq9
  obtain ⟨m81, m82, m83⟩ := m8 hfl
  have ho := hi.2.2.2.1.2.2.2.2.2.2.2
  have hwp := wp_same (Q2 := fun v h2 => SameC h h2 ∧ K (pc + 3) ls (v.toList ++ st.drop (k + 1)) h2 (cs + r2.2.2.2.2.2.2.2.1) (sl + r2.2.2.2.2.2.2.2.2.1)) (CK_ok ho) (fun v h2 hs q => ⟨hs, q⟩) hw
  obtain ⟨hok1, hok2⟩ := take_ok (k := k + 1) hi.2.2.1
  have hmet := met_of ih hj hM hwp hok1 (by rw [csum_rev]; exact hcs) fo E D ad H.size
  obtain ⟨htk, hal⟩ := head_drop hrec
  have ha27 : a ≠ 27 := ref_27 ho hkind (by unfold rkd; split <;> omega)
  have hsp : (st.take (k + 1)).reverse.map (cv ad fo) = .ref (ad a) :: (st.take k).reverse.map (cv ad fo) := by
    rw [htk, List.reverse_append, List.map_append]
    show [cv ad fo (.inr (.inr (some a)))] ++ _ = _
    rw [cv_ref ha27]
    rfl
  have hrecv : ∃ cellB : Cell, H[ad a]? = some cellB ∧ cellB.vm.isStatics = false ∧ s.vm.findClass r2.1.cls = some cellB.cls := by
    obtain ⟨hK, hP, hD, hS, hA, hC, hWd, -⟩ := hi.2.2.2.1
    rcases m83 with m83 | m83
    · have hlt : rkd r2.2.2.2.2.1 = r2.2.2.2.2.1 := by unfold rkd; rw [if_neg (by omega)]
      rw [hlt] at hkind
      have h28 : 28 ≤ a := ref_28 ho hkind (by omega)
      obtain ⟨ts, hts9⟩ := nFT_of m83
      obtain ⟨cc, hcc⟩ := nCl_of m83
      have hq := nWs_get (E := E) (ad := ad) h28 (List.getElem?_eq_some_iff.mp hkind).1
      rw [enc_obj hkind hts9] at hq
      have := va_recv hK hP hcc hq
      rw [cl_own hcc m2] at this
      exact this
    · rw [m83] at hkind m2
      have hkind : h.1[a]? = some (200, nn) := hkind
      have ha28 : a < 28 := by
        rcases Nat.lt_or_ge a 28 with q | q
        · exact q
        · have := ((ho.2.2.2.1 a 200 nn hkind).1 q).1
          omega
      have h17 : r2.1.cls = "java/lang/String" := (Option.some.inj m2).symm
      rw [h17]
      obtain ⟨cell, h1, h2, h3, -⟩ := (hC.2.2.1 a nn ha28 hkind).1.kept hS.2.1
      exact ⟨cell, h1, h2, h3⟩
  rw [hsp] at hmet
  refine go_run (r := r) (r2 := r2) hg hi hok2 (fun v h2 q => q) (va_runV (C := r2.1.cls) (b := ad a) (As := (st.take k).reverse.map (cv ad fo)) ⟨hx, hb, hml, hown, hts⟩ hmet ⟨callB_of (own := r.1.cls) (index := i) k hts (good_ws hM) rfl rfl rfl (hts _ m1) (hts _ hlink) ⟨m5, m6, by rw [m3, hk]⟩ ⟨by rw [hR3]; exact g2, by rw [hR4]; exact g3⟩, hts _ m81, hts _ m82⟩ ⟨nV_blind, hrecv, fun U hU hW => ⟨rfl, nV_of hi.2.2.2.1 hU hW⟩⟩ rfl (by simp; omega) hi.1.1.1 ?_ (lv_room (by rw [csum_cv]; exact g1)) hd ⟨by rw [hR1]; exact g4, by rw [hR2]; exact g5⟩)
  show st.map (cv ad fo) = _
  rw [take_map (k := k + 1), hsp]
  simp
theorem s_callI {a : Nat} (ih : Snd l n) (hF : FrC p s m args meth c R r) (hg : Gw p l e R s m args below meth c Qw fo E D A n0 ad0 r.2.2.1 K) (hj : mrec j2 = some r2) (hM : MOk r2) (hfl : r2.2.2.2.2.2.2.2.2.2.2 = 2) (hlink : Cond.methodLink r.1.cls i r2.1 ∈ nW0 ∨ Cond.methodLinkNest r.1.cls i r2.1 "NumberedText" ∈ nNst) (hd : decode r.2.1 pc = .ok (.invokespecial i, 3)) (hrec : (st.drop r2.2.2.2.2.2.2.2.2.2.1).head? = some (.inr (.inr (some a)))) (ha27 : a ≠ 27)
    (hw : callT (fun j2 ls h Q2 => wp n j2 0 ls [] h 0 0 Q2) (fun st h cs sl => K (pc + 3) ls st h cs sl) r j2 r2 (r2.2.2.2.2.2.2.2.2.2.1 + 1) st h cs sl) (hret : r2.2.2.2.1 = none) (hi : Inv fo E D A n0 ad0 s r.2.2.1 ls st h la H locs ad) : W p l e R s m args below meth c H locs cs sl Qw (F0 m pc la (st.map (cv ad fo))) := by
  obtain ⟨hx, hb, hml, hown, hts, hcn, hin, hR1, hR2, hR3, hR4⟩ := hF
  obtain ⟨hlen, hcs, ⟨g1, g2, g3, g4, g5⟩, hw⟩ := hw
  generalize hk : r2.2.2.2.2.2.2.2.2.2.1 = k at hlen hcs g1 hw hrec
  obtain ⟨q9, hq9⟩ := hM.2
  obtain ⟨m1, m2, m3, m4, m5, m6, m7, m8, m9⟩ := chkM_spec hq9
  obtain ⟨m91, m92⟩ := m9 hfl
  have ho := hi.2.2.2.1.2.2.2.2.2.2.2
  have hwp := wp_same (Q2 := fun v h2 => SameC h h2 ∧ K (pc + 3) ls (v.toList ++ st.drop (k + 1)) h2 (cs + r2.2.2.2.2.2.2.2.1) (sl + r2.2.2.2.2.2.2.2.2.1)) (CK_ok ho) (fun v h2 hs q => ⟨hs, q⟩) hw
  obtain ⟨hok1, hok2⟩ := take_ok (k := k + 1) hi.2.2.1
  have hmet := met_of ih hj hM hwp hok1 (by rw [csum_rev]; exact hcs) fo E D ad H.size
  obtain ⟨htk, hal⟩ := head_drop hrec
  have hsp : (st.take (k + 1)).reverse.map (cv ad fo) = .ref (ad a) :: (st.take k).reverse.map (cv ad fo) := by
    rw [htk, List.reverse_append, List.map_append]
    show [cv ad fo (.inr (.inr (some a)))] ++ _ = _
    rw [cv_ref ha27]
    rfl
  rw [hsp] at hmet
  have hgw := good_ws hM
  rw [hret] at hmet hgw
  have hst : st.map (cv ad fo) = ((st.take k).reverse.map (cv ad fo)).reverse ++ .ref (ad a) :: (st.drop (k + 1)).map (cv ad fo) := by
    rw [take_map (k := k + 1), hsp]
    simp
  rcases hlink with hlink | hlink
  · exact go_run (r := r) (r2 := r2) hg hi hok2 (fun v h2 q => q) (va_runI (b := ad a) (As := (st.take k).reverse.map (cv ad fo)) ⟨hx, hb, hml, hown, hts⟩ hmet ⟨callB_of (own := r.1.cls) (index := i) k hts hgw rfl rfl rfl (hts _ m1) (hts _ hlink) ⟨m5, m6, by rw [m3, hk]⟩ ⟨by rw [hR3]; exact g2, by rw [hR4]; exact g3⟩, m92, hts _ m91⟩ ⟨nV_blind, fun U hU hW => ⟨rfl, nV_of hi.2.2.2.1 hU hW⟩⟩ rfl (by simp; omega) hi.1.1.1 hst (lv_room (by rw [csum_cv]; exact g1)) hd ⟨by rw [hR1]; exact g4, by rw [hR2]; exact g5⟩)
  · exact go_run (r := r) (r2 := r2) hg hi hok2 (fun v h2 q => q) (va_runIN (b := ad a) (As := (st.take k).reverse.map (cv ad fo)) ⟨hx, hb, hml, hown, hts⟩ hmet ⟨va_cnB (own := r.1.cls) (index := i) k hts hgw rfl rfl rfl (hi.2.2.2.1.2.2.2.2.2.2.1.1 _ hlink) (hts _ m1) ⟨m5, m6, by rw [m3, hk]⟩ ⟨by rw [hR3]; exact g2, by rw [hR4]; exact g3⟩, m92, hts _ m91⟩ ⟨nV_blind, fun U hU hW => ⟨rfl, nV_of hi.2.2.2.1 hU hW⟩⟩ rfl (by simp; omega) hi.1.1.1 hst (lv_room (by rw [csum_cv]; exact g1)) hd ⟨by rw [hR1]; exact g4, by rw [hR2]; exact g5⟩)
end SNDC
