/-! fields written, rows read and written -/
theorem cl_nm2 : ((List.range 11).all fun k => decide ((nCl[k]?).map (fun q => q.1) = nCn[k]?)) = true := by decide +kernel
theorem cl_own {ci : Nat} {cc : vw_C} {own : String} (h : nCl[ci]? = some cc) (h2 : nCn[ci]? = some own) : cc.1 = own := by
  have h3 := List.all_eq_true.mp cl_nm2 ci (List.mem_range.mpr (nCl_lt h))
  simp only [decide_eq_true_eq, h, h2, Option.map_some] at h3
  exact Option.some.inj h3
section SNDF
variable {p : Program} {l : Launch} {e : Env} {R : Room} {s : State} {m : MethodId} {args : Array Value} {below : List Frame} {meth : Method} {c : Code} {Qw : State → Prop} {fo : Option Nat} {E : Nat → ClassId} {D : va_G} {A : Nat → Prop} {n0 : Nat} {ad0 : Nat → Nat} {nL : Nat}
variable {K : Nat → Lc → List Vl → Hp → Nat → Nat → Prop} {C : Nat → Lc → Hp → (Option Vl → Hp → Prop) → Prop} {r : MR} {pc len : Nat} {ls : Lc} {st : List Vl} {h h' : Hp} {cs sl : Nat} {Q : Option Vl → Hp → Prop} {la : Array Slot} {H H1 : Heap} {locs locs1 : List Loc} {ad : Nat → Nat}
/-- a field written: the machine's step and the new world -/
theorem put_fd {i ci k t n a : Nat} {f : Bool} {w : Value} {rest : List Value} (hx : p.tables.exec = Jvm.exec) (hb : c.code = r.2.1) (hown : s.vm.findClass r.1.cls = some m.cls) (hts : ∀ w ∈ nW0, w.before args s = true) (hcn : nCn[r.2.2.2.2.1]? = some r.1.cls) (hin : r.1.name = "<init>" → meth.name = "<init>") (hd : decode r.2.1 pc = .ok (.putfield i, 3)) (hv : lk2 nFd r.2.2.2.2.1 i = some (ci, k, t, f)) (hc : ci < 100) (hf : f = false ∨ (r.1.name = "<init>" ∧ ci = r.2.2.2.2.1)) (hs : h.1[a]? = some (ci, n)) (hw : nW fo E D ad h A s H locs)
    (hwv : ∀ ty, ((ty = .int ∧ t = 0) ∨ (ty = .boolean ∧ t = 1) ∨ (ty = .long ∧ t = 2) ∨ ((((∃ n, ty = .object n) ∨ ∃ t', ty = .array t')) ∧ t = 3)) → narrow ty w = w ∧ fits ty w = true)
    (hs' : h'.1 = h.1) (hi' : ∀ b i, (b = a → i ≠ k) → h'.2.1 b i = h.2.1 b i) (hr' : ∀ b i, (b = a → i ≠ k) → h'.2.2.1 b i = h.2.2.1 b i) (hl' : ∀ b i, (b = a → i ≠ k) → h'.2.2.2 b i = h.2.2.2 b i) (hok : okH h') (hnv : nfv ad h' a k t = w)
    (kk : ∀ H1 locs1, nW fo E D ad h' A s H1 locs1 → W p l e R s m args below meth c H1 locs1 cs sl Qw (F0 m (pc + 3) la rest)) : W p l e R s m args below meth c H locs cs sl Qw (F0 m pc la (w :: .ref (ad a) :: rest)) := by
  obtain ⟨cc, own, ts, f1, f2, f3, f4, f5, f6, f7, f8, f9⟩ := fd_spec hv (show ci ≠ 200 by omega)
  dsimp only at f1 f2 f3 f4 f5 f6 f7 f8 f9
  obtain ⟨hK, hP, hD, hS, hA, hC, hWd, ho⟩ := id hw
  have hl : a < h.1.length := (List.getElem?_eq_some_iff.mp hs).1
  have hlt := nFT_lt f3
  have h28 : 28 ≤ a := ref_28 ho hs (by omega)
  have eo : own = r.1.cls := Option.some.inj (f2.symm.trans hcn)
  subst eo
  have hk : (nWs E ad h)[a - 28]? = some (ad a, .inr (ci, nfs ad h a ts)) := by rw [nWs_get h28 hl, enc_obj hs f3]
  obtain ⟨ty0, hty⟩ := cl_ty ci cc f1
  have hkk : ∀ (H1 : Heap) (locs1 : List Loc), va_P D nCl ((nWs E ad h).set (a - 28) (ad a, .inr (ci, (nfs ad h a ts).set k w))) H1 → va_D A ((nWs E ad h).set (a - 28) (ad a, .inr (ci, (nfs ad h a ts).set k w))) → va_S A s.heap H1 locs1 → W p l e R s m args below meth c H1 locs1 cs sl Qw (F0 m (pc + 3) la rest) := fun H1 locs1 g1 g2 g3 => by
    refine kk H1 locs1 (nW_put hw h28 hs' (fun b i hb => hi' b i (fun e => absurd e hb)) (fun b i hb => hr' b i (fun e => absurd e hb)) (fun b i hb => hl' b i (fun e => absurd e hb)) hok ?_ g1 g2 g3)
    rw [enc_obj (by rw [hs']; exact hs) f3, nfs_set (h := h) f4 (fun i t' hi2 _ => by
      unfold nfv
      rw [hi' a i (fun _ => hi2), hr' a i (fun _ => hi2), hl' a i (fun _ => hi2)]), hnv]
  have hty1 : ∃ ty, parseFieldDescriptor (cc.2.1 k).2.2.1 = some ty ∧ narrow ty w = w ∧ fits ty w = true := by
    rcases f9 with ⟨g1, g2⟩ | ⟨g1, g2⟩ | ⟨g1, g2⟩ | ⟨⟨ty, g1, g3⟩, g2⟩
    · exact ⟨_, g1, hwv _ (Or.inl ⟨rfl, g2⟩)⟩
    · exact ⟨_, g1, hwv _ (Or.inr (Or.inl ⟨rfl, g2⟩))⟩
    · exact ⟨_, g1, hwv _ (Or.inr (Or.inr (Or.inl ⟨rfl, g2⟩)))⟩
    · exact ⟨_, g1, hwv _ (Or.inr (Or.inr (Or.inr ⟨g3, g2⟩)))⟩
  obtain ⟨ty, q1, q2, q3⟩ := hty1
  have hlk : k < (nfs ad h a ts).length := by rw [nfs_len]; exact (List.getElem?_eq_some_iff.mp f4).1
  cases f with
  | false => exact va_put (D := D) (C := cc.1) (T := cc.2.1) (N := cc.2.2) hx hb hts (cl_in ci cc f1) ty0 hty (cl_nm ci cc f1) hown hK hP hD hS (a - 28) hk f1 k f6 (hts _ f5) (fun _ q => q) f7 q1 q2 q3 hlk hd hkk
  | true =>
    rcases hf with hf | ⟨hn, hce⟩
    · cases hf
    · have he : (cc.2.1 k).1 = r.1.cls := by rw [f8]; exact cl_own f1 (by rw [hce]; exact hcn)
      exact va_putF (D := D) (C := cc.1) (T := cc.2.1) (N := cc.2.2) hx hb hts (cl_in ci cc f1) ty0 hty (cl_nm ci cc f1) hown hK hP hD hS (a - 28) hk f1 k f6 (hts _ f5) (fun _ q => q) f7 (hin hn) he q1 q2 q3 hlk hd hkk
theorem s_putfield {i : Nat} (hx : p.tables.exec = Jvm.exec) (hb : c.code = r.2.1) (hg : Gw p l e R s m args below meth c Qw fo E D A n0 ad0 nL K) (hown : s.vm.findClass r.1.cls = some m.cls) (hts : ∀ w ∈ nW0, w.before args s = true) (hcn : nCn[r.2.2.2.2.1]? = some r.1.cls) (hin : r.1.name = "<init>" → meth.name = "<init>") (hd : decode r.2.1 pc = .ok (.putfield i, len)) (hw : stepF K C r pc len (.putfield i) ls st h cs sl Q) (hi : Inv fo E D A n0 ad0 s nL ls st h la H locs ad) : W p l e R s m args below meth c H locs cs sl Qw (F0 m pc la (st.map (cv ad fo))) := by
  obtain ⟨rfl, hw⟩ := hw
  have ho := hi.2.2.2.1.2.2.2.2.2.2.2
  cases hv : lk2 nFd r.2.2.2.2.1 i with
  | none => rw [hv] at hw; exact hw.elim
  | some q =>
    obtain ⟨ci, k, t, f⟩ := q
    rw [hv] at hw
    obtain ⟨hf, hw⟩ := hw
    by_cases h3 : t = 3
    · rw [if_pos h3] at hw
      obtain ⟨v, st1, rfl, hw1⟩ := pV_inv hw
      obtain ⟨a, st2, rfl, hw2⟩ := pA_inv hw1
      rcases v with v | v | x
      · exact hw2.elim
      · exact hw2.elim
      obtain ⟨hx27, hc, ⟨n, hs⟩, hw2⟩ := hw2
      have ha27 : a ≠ 27 := ref_27 ho hs (by omega)
      have hxok : ∀ b, x = some b → b < h.1.length ∧ b ≠ 27 := fun b hb => ⟨hi.2.2.1.hd b hb, fun e => hx27 (by rw [hb, e])⟩
      have hok : okH (putR h a k x) := okH_putR ho hxok
      refine W.eq (g2 := F0 m pc la (va_rf (x.map ad) :: .ref (ad a) :: st2.map (cv ad fo))) (by rw [List.map_cons, List.map_cons, cv_ref ha27, ← cvr_rf (fo := fo) (fun b hb => (hxok b hb).2)]; rfl) ?_
      refine put_fd (h := h) (h' := putR h a k x) hx hb hown hts hcn hin hd hv hc hf hs hi.2.2.2.1 (fun ty hty => ?_) rfl (fun b j _ => rfl) (fun b j hbj => ?_) (fun b j _ => rfl) hok ?_ (fun H1 locs1 hw9 => ?_)
      · rcases hty with ⟨-, q⟩ | ⟨-, q⟩ | ⟨-, q⟩ | ⟨q, -⟩
        · omega
        · omega
        · omega
        · rcases q with ⟨n, rfl⟩ | ⟨t', rfl⟩ <;> cases x <;> exact ⟨rfl, rfl⟩
      · show up2 h.2.2.1 a k x b j = h.2.2.1 b j
        exact if_neg fun q => hbj q.1 q.2
      · unfold nfv
        rw [if_pos h3]
        show va_rf ((up2 h.2.2.1 a k x a k).map ad) = _
        rw [up2_eq]
      · exact hg _ _ _ _ _ _ _ _ _ _ hw2 (hi.hp rfl hi.2.2.1.tl.tl hw9)
    · rw [if_neg h3] at hw
      by_cases h2 : t = 2
      · rw [if_pos h2] at hw
        obtain ⟨x, st1, rfl, hw1⟩ := pL_inv hw
        obtain ⟨a, st2, rfl, hc, ⟨n, hs⟩, hw2⟩ := pA_inv hw1
        have ha27 : a ≠ 27 := ref_27 ho hs (by omega)
        refine W.eq (g2 := F0 m pc la (.long x :: .ref (ad a) :: st2.map (cv ad fo))) (by rw [List.map_cons, List.map_cons, cv_ref ha27]; rfl) ?_
        refine put_fd (h := h) (h' := putL h a k x) hx hb hown hts hcn hin hd hv hc hf hs hi.2.2.2.1 (fun ty hty => ?_) rfl (fun b j _ => rfl) (fun b j _ => rfl) (fun b j hbj => ?_) (okH_putL ho) ?_ (fun H1 locs1 hw9 => ?_)
        · rcases hty with ⟨-, q⟩ | ⟨-, q⟩ | ⟨rfl, -⟩ | ⟨-, q⟩
          · omega
          · omega
          · exact ⟨rfl, rfl⟩
          · omega
        · show up2 h.2.2.2 a k x b j = h.2.2.2 b j
          exact if_neg fun q => hbj q.1 q.2
        · unfold nfv
          rw [if_neg h3, if_pos h2]
          show Value.long (up2 h.2.2.2 a k x a k) = _
          rw [up2_eq]
        · exact hg _ _ _ _ _ _ _ _ _ _ hw2 (hi.hp rfl hi.2.2.1.tl.tl hw9)
      · rw [if_neg h2] at hw
        obtain ⟨x, st1, rfl, hw1⟩ := pI_inv hw
        obtain ⟨a, st2, rfl, hz, hc, ⟨n, hs⟩, hw2⟩ := pA_inv hw1
        have ha27 : a ≠ 27 := ref_27 ho hs (by omega)
        refine W.eq (g2 := F0 m pc la (.int (Int32.ofInt x) :: .ref (ad a) :: st2.map (cv ad fo))) (by rw [List.map_cons, List.map_cons, cv_ref ha27]; rfl) ?_
        refine put_fd (h := h) (h' := putI h a k x) hx hb hown hts hcn hin hd hv hc hf hs hi.2.2.2.1 (fun ty hty => ?_) rfl (fun b j hbj => ?_) (fun b j _ => rfl) (fun b j _ => rfl) (okH_putI ho hi.2.2.1.hd (fun n9 h9 => ?_)) ?_ (fun H1 locs1 hw9 => ?_)
        · rcases hty with ⟨rfl, -⟩ | ⟨rfl, q⟩ | ⟨-, q⟩ | ⟨-, q⟩
          · exact ⟨rfl, rfl⟩
          · rcases hz q with rfl | rfl
            · exact ⟨by decide, by decide⟩
            · exact ⟨by decide, by decide⟩
          · omega
          · omega
        · show up2 h.2.1 a k x b j = h.2.1 b j
          exact if_neg fun q => hbj q.1 q.2
        · rw [hs] at h9
          cases h9
          omega
        · unfold nfv
          rw [if_neg h3, if_neg h2]
          show Value.int (Int32.ofInt (up2 h.2.1 a k x a k)) = _
          rw [up2_eq]
        · exact hg _ _ _ _ _ _ _ _ _ _ hw2 (hi.hp rfl hi.2.2.1.tl.tl hw9)
theorem s_arraylength (hx : p.tables.exec = Jvm.exec) (hb : c.code = r.2.1) (hg : Gw p l e R s m args below meth c Qw fo E D A n0 ad0 nL K) (hd : decode r.2.1 pc = .ok (.arraylength, len)) (hw : stepF K C r pc len .arraylength ls st h cs sl Q) (hi : Inv fo E D A n0 ad0 s nL ls st h la H locs ad) : W p l e R s m args below meth c H locs cs sl Qw (F0 m pc la (st.map (cv ad fo))) := by
  obtain ⟨rfl, hw⟩ := hw
  obtain ⟨a, st1, rfl, k, n, hs, hk1, hk2, hn, hw1⟩ := pA_inv hw
  obtain ⟨hK, hP, hD, hS, hA, hC, hWd, ho⟩ := hi.2.2.2.1
  have hl : a < h.1.length := (List.getElem?_eq_some_iff.mp hs).1
  have h27 : a ≠ 27 := ref_27 ho hs (by omega)
  have hnI : inI (n : Int) := by unfold inI; omega
  refine W.eq (g2 := F0 m pc la (.ref (ad a) :: st1.map (cv ad fo))) (by rw [List.map_cons, cv_ref h27]) ?_
  have hend : W p l e R s m args below meth c H locs cs sl Qw (F0 m (pc + 1) la (.int (Int32.ofNat n) :: st1.map (cv ad fo))) := W_top (v := .inl (n : Int)) (by show Value.int (Int32.ofInt (n : Int)) = _; rw [Int32.ofInt_eq_ofNat]) (hg _ _ _ _ _ _ _ _ _ _ hw1 (hi.st (.cons hnI hi.2.2.1.tl)))
  rcases Nat.lt_or_ge a 28 with q | q
  · have hkk := ((ho.2.2.2.1 a k n hs).2 q).1
    rcases hkk with rfl | rfl | rfl | rfl
    · exact va_tlen hx hb (hC.1 a n q hs) hS rfl hd hend
    · exact va_tlen hx hb (hC.2.1 a n q hs) hS rfl hd hend
    · omega
    · omega
  · have hkk := ((ho.2.2.2.1 a k n hs).1 q).1
    have hq := nWs_get (E := E) (ad := ad) q hl
    rcases hkk with hkk | rfl | rfl | rfl | rfl | rfl | rfl
    · omega
    · rw [enc_i hs] at hq
      exact va_alen hx hb hK hP (a - 28) 0 hq rfl rfl hd hend
    · rw [enc_z hs] at hq
      exact va_alen hx hb hK hP (a - 28) 1 hq rfl rfl hd hend
    · rw [enc_l hs] at hq
      exact va_alen hx hb hK hP (a - 28) 2 hq rfl rfl hd hend
    · rw [enc_q hs (by omega)] at hq
      exact va_alen hx hb hK hP (a - 28) 3 hq rfl rfl hd hend
    · rw [enc_q hs (by omega)] at hq
      exact va_alen hx hb hK hP (a - 28) 4 hq rfl rfl hd hend
    · rw [enc_q hs (by omega)] at hq
      exact va_alen hx hb hK hP (a - 28) 5 hq rfl rfl hd hend
theorem s_iaload (hx : p.tables.exec = Jvm.exec) (hb : c.code = r.2.1) (hg : Gw p l e R s m args below meth c Qw fo E D A n0 ad0 nL K) (hd : decode r.2.1 pc = .ok (.iaload, len)) (hw : stepF K C r pc len .iaload ls st h cs sl Q) (hi : Inv fo E D A n0 ad0 s nL ls st h la H locs ad) : W p l e R s m args below meth c H locs cs sl Qw (F0 m pc la (st.map (cv ad fo))) := by
  obtain ⟨rfl, hw⟩ := hw
  obtain ⟨i, st1, rfl, hw1⟩ := pI_inv hw
  obtain ⟨a, st2, rfl, ⟨n, hs, hin⟩, hw2⟩ := pA_inv hw1
  obtain ⟨hK, hP, hD, hS, hA, hC, hWd, ho⟩ := hi.2.2.2.1
  have hl : a < h.1.length := (List.getElem?_eq_some_iff.mp hs).1
  have h27 : a ≠ 27 := ref_27 ho hs (by decide)
  have ii : inI i := hi.2.2.1.hd
  refine W.eq (g2 := F0 m pc la (.int (Int32.ofInt i) :: .ref (ad a) :: st2.map (cv ad fo))) (by rw [List.map_cons, List.map_cons, cv_ref h27]; rfl) ?_
  have hend : W p l e R s m args below meth c H locs cs sl Qw (F0 m (pc + 1) la (.int (Int32.ofInt (h.2.1 a (Int32.ofInt i).toNatClampNeg)) :: st2.map (cv ad fo))) := by
    rw [ix_cl ii]
    exact W_top (v := .inl (h.2.1 a i.toNat)) rfl (hg _ _ _ _ _ _ _ _ _ _ hw2 (hi.st (.cons (ho.2.1 a _) hi.2.2.1.tl.tl)))
  rcases Nat.lt_or_ge a 28 with q | q
  · exact va_ti hx hb (hC.1 a n q hs) hS (ix_in ii hin) rfl hd hend
  · have hq := nWs_get (E := E) (ad := ad) q hl
    rw [enc_i hs] at hq
    exact va_iald hx hb hK hP (a - 28) 0 hq rfl (ix_in ii hin) hd hend
theorem s_baload (hx : p.tables.exec = Jvm.exec) (hb : c.code = r.2.1) (hg : Gw p l e R s m args below meth c Qw fo E D A n0 ad0 nL K) (hd : decode r.2.1 pc = .ok (.baload, len)) (hw : stepF K C r pc len .baload ls st h cs sl Q) (hi : Inv fo E D A n0 ad0 s nL ls st h la H locs ad) : W p l e R s m args below meth c H locs cs sl Qw (F0 m pc la (st.map (cv ad fo))) := by
  obtain ⟨rfl, hw⟩ := hw
  obtain ⟨i, st1, rfl, hw1⟩ := pI_inv hw
  obtain ⟨a, st2, rfl, ⟨k, n, hs, hk, hin⟩, hw2⟩ := pA_inv hw1
  obtain ⟨hK, hP, hD, hS, hA, hC, hWd, ho⟩ := hi.2.2.2.1
  have hl : a < h.1.length := (List.getElem?_eq_some_iff.mp hs).1
  have h27 : a ≠ 27 := ref_27 ho hs (by omega)
  have ii : inI i := hi.2.2.1.hd
  refine W.eq (g2 := F0 m pc la (.int (Int32.ofInt i) :: .ref (ad a) :: st2.map (cv ad fo))) (by rw [List.map_cons, List.map_cons, cv_ref h27]; rfl) ?_
  have hend : W p l e R s m args below meth c H locs cs sl Qw (F0 m (pc + 1) la (.int (Int32.ofInt (h.2.1 a (Int32.ofInt i).toNatClampNeg)) :: st2.map (cv ad fo))) := by
    rw [ix_cl ii]
    exact W_top (v := .inl (h.2.1 a i.toNat)) rfl (hg _ _ _ _ _ _ _ _ _ _ hw2 (hi.st (.cons (ho.2.1 a _) hi.2.2.1.tl.tl)))
  rcases Nat.lt_or_ge a 28 with q | q
  · have hkk := ((ho.2.2.2.1 a k n hs).2 q).1
    have hk3 : k = 103 := by omega
    subst hk3
    exact va_tb hx hb (hC.2.1 a n q hs) hS (ix_in ii hin) rfl hd hend
  · have hkk := ((ho.2.2.2.1 a k n hs).1 q).1
    have hk3 : k = 101 := by omega
    subst hk3
    have hq := nWs_get (E := E) (ad := ad) q hl
    rw [enc_z hs] at hq
    exact va_zald hx hb hK hP (a - 28) 1 hq rfl (ix_in ii hin) hd hend
theorem s_laload (hx : p.tables.exec = Jvm.exec) (hb : c.code = r.2.1) (hg : Gw p l e R s m args below meth c Qw fo E D A n0 ad0 nL K) (hd : decode r.2.1 pc = .ok (.laload, len)) (hw : stepF K C r pc len .laload ls st h cs sl Q) (hi : Inv fo E D A n0 ad0 s nL ls st h la H locs ad) : W p l e R s m args below meth c H locs cs sl Qw (F0 m pc la (st.map (cv ad fo))) := by
  obtain ⟨rfl, hw⟩ := hw
  obtain ⟨i, st1, rfl, hw1⟩ := pI_inv hw
  obtain ⟨a, st2, rfl, ⟨n, hs, hin⟩, hw2⟩ := pA_inv hw1
  obtain ⟨hK, hP, hD, hS, hA, hC, hWd, ho⟩ := hi.2.2.2.1
  have hl : a < h.1.length := (List.getElem?_eq_some_iff.mp hs).1
  have h27 : a ≠ 27 := ref_27 ho hs (by decide)
  have h28 : 28 ≤ a := ref_28 ho hs (by decide)
  have ii : inI i := hi.2.2.1.hd
  refine W.eq (g2 := F0 m pc la (.int (Int32.ofInt i) :: .ref (ad a) :: st2.map (cv ad fo))) (by rw [List.map_cons, List.map_cons, cv_ref h27]; rfl) ?_
  have hend : W p l e R s m args below meth c H locs cs sl Qw (F0 m (pc + 1) la (.long (h.2.2.2 a (Int32.ofInt i).toNatClampNeg) :: st2.map (cv ad fo))) := by
    rw [ix_cl ii]
    exact W_top (v := .inr (.inl (h.2.2.2 a i.toNat))) rfl (hg _ _ _ _ _ _ _ _ _ _ hw2 (hi.st (.cons trivial hi.2.2.1.tl.tl)))
  have hq := nWs_get (E := E) (ad := ad) h28 hl
  rw [enc_l hs] at hq
  exact va_lald hx hb hK hP (a - 28) 2 hq rfl (ix_in ii hin) hd hend
theorem s_aaload (hx : p.tables.exec = Jvm.exec) (hb : c.code = r.2.1) (hg : Gw p l e R s m args below meth c Qw fo E D A n0 ad0 nL K) (hd : decode r.2.1 pc = .ok (.aaload, len)) (hw : stepF K C r pc len .aaload ls st h cs sl Q) (hi : Inv fo E D A n0 ad0 s nL ls st h la H locs ad) : W p l e R s m args below meth c H locs cs sl Qw (F0 m pc la (st.map (cv ad fo))) := by
  obtain ⟨rfl, hw⟩ := hw
  obtain ⟨i, st1, rfl, hw1⟩ := pI_inv hw
  obtain ⟨a, st2, rfl, ⟨k, n, hs, hk, hin⟩, hw2⟩ := pA_inv hw1
  obtain ⟨hK, hP, hD, hS, hA, hC, hWd, ho⟩ := hi.2.2.2.1
  have hl : a < h.1.length := (List.getElem?_eq_some_iff.mp hs).1
  have h27 : a ≠ 27 := ref_27 ho hs (by omega)
  have h28 : 28 ≤ a := ref_28 ho hs (by omega)
  have ii : inI i := hi.2.2.1.hd
  refine W.eq (g2 := F0 m pc la (.int (Int32.ofInt i) :: .ref (ad a) :: st2.map (cv ad fo))) (by rw [List.map_cons, List.map_cons, cv_ref h27]; rfl) ?_
  have hend : W p l e R s m args below meth c H locs cs sl Qw (F0 m (pc + 1) la (va_rf ((h.2.2.1 a (Int32.ofInt i).toNatClampNeg).map ad) :: st2.map (cv ad fo))) := by
    rw [ix_cl ii]
    exact W_top (v := .inr (.inr (h.2.2.1 a i.toNat))) (cvr_rf fun b hb => (ho.2.2.1 a _ b hb).2) (hg _ _ _ _ _ _ _ _ _ _ hw2 (hi.st (.cons (fun b hb => (ho.2.2.1 a _ b hb).1) hi.2.2.1.tl.tl)))
  have hq := nWs_get (E := E) (ad := ad) h28 hl
  rw [enc_q hs hk] at hq
  rcases hk with rfl | rfl | rfl
  · exact va_aldq hx hb hK hP (a - 28) 3 hq rfl (ix_in ii hin) hd hend
  · exact va_aldq hx hb hK hP (a - 28) 4 hq rfl (ix_in ii hin) hd hend
  · have hlt : (Int32.ofInt i).toNatClampNeg < n := Nat.not_le.mp fun q => (ix_in ii hin) (Or.inr q)
    exact W.aald (v := va_rf ((h.2.2.1 a (Int32.ofInt i).toNatClampNeg).map ad)) (ty := .array .int) hx hb (hP (a - 28) _ hq) ((hK.2 5 _ rfl).1 n (fun j => va_rf ((h.2.2.1 a j).map ad))) rfl (fun q => by cases q) (by show ¬ (_ ∨ (arrV _ _ _).slots.size ≤ _); rw [arrV_size]; exact ix_in ii hin) (by show (arrV _ _ _).slots[_]? = _; rw [arrV_read _ _ hlt]) rfl rfl hd hend
theorem s_iastore (hx : p.tables.exec = Jvm.exec) (hb : c.code = r.2.1) (hg : Gw p l e R s m args below meth c Qw fo E D A n0 ad0 nL K) (hd : decode r.2.1 pc = .ok (.iastore, len)) (hw : stepF K C r pc len .iastore ls st h cs sl Q) (hi : Inv fo E D A n0 ad0 s nL ls st h la H locs ad) : W p l e R s m args below meth c H locs cs sl Qw (F0 m pc la (st.map (cv ad fo))) := by
  obtain ⟨rfl, hw⟩ := hw
  obtain ⟨x, st0, rfl, hw0⟩ := pI_inv hw
  obtain ⟨i, st1, rfl, hw1⟩ := pI_inv hw0
  obtain ⟨a, st2, rfl, h28, ⟨n, hs, hin⟩, hw2⟩ := pA_inv hw1
  obtain ⟨hK, hP, hD, hS, hA, hC, hWd, ho⟩ := id hi.2.2.2.1
  have hl : a < h.1.length := (List.getElem?_eq_some_iff.mp hs).1
  have ii : inI i := hi.2.2.1.tl.hd
  refine W.eq (g2 := F0 m pc la (.int (Int32.ofInt x) :: .int (Int32.ofInt i) :: .ref (ad a) :: st2.map (cv ad fo))) (by rw [List.map_cons, List.map_cons, List.map_cons, cv_ref (by omega)]; rfl) ?_
  have hq := nWs_get (E := E) (ad := ad) h28 hl
  rw [enc_i hs] at hq
  refine va_iast hx hb hK hP hD hS (a - 28) 0 hq rfl (ix_in ii hin) hd fun H1 locs1 g1 g2 g3 => ?_
  refine hg _ _ _ _ _ _ _ _ _ _ hw2 (hi.hp rfl hi.2.2.1.tl.tl.tl (nW_put hi.2.2.2.1 h28 rfl (fun b j hb => up2_ne hb) (fun b j _ => rfl) (fun b j _ => rfl) (okH_putI ho hi.2.2.1.hd (fun n9 h9 => by rw [hs] at h9; cases h9)) ?_ g1 g2 g3))
  rw [enc_i (h := putI h a i.toNat x) hs, ix_cl ii]
  congr 4
  funext j
  show Int32.ofInt (up2 h.2.1 a i.toNat x a j) = upd _ _ _ j
  unfold up2 upd
  by_cases e : j = i.toNat
  · rw [if_pos ⟨rfl, e⟩, if_pos e]
  · rw [if_neg (fun q => e q.2), if_neg e]
theorem s_bastore (hx : p.tables.exec = Jvm.exec) (hb : c.code = r.2.1) (hg : Gw p l e R s m args below meth c Qw fo E D A n0 ad0 nL K) (hd : decode r.2.1 pc = .ok (.bastore, len)) (hw : stepF K C r pc len .bastore ls st h cs sl Q) (hi : Inv fo E D A n0 ad0 s nL ls st h la H locs ad) : W p l e R s m args below meth c H locs cs sl Qw (F0 m pc la (st.map (cv ad fo))) := by
  obtain ⟨rfl, hw⟩ := hw
  obtain ⟨x, st0, rfl, hw0⟩ := pI_inv hw
  obtain ⟨i, st1, rfl, hw1⟩ := pI_inv hw0
  obtain ⟨a, st2, rfl, hz, h28, ⟨n, hs, hin⟩, hw2⟩ := pA_inv hw1
  obtain ⟨hK, hP, hD, hS, hA, hC, hWd, ho⟩ := id hi.2.2.2.1
  have hl : a < h.1.length := (List.getElem?_eq_some_iff.mp hs).1
  have ii : inI i := hi.2.2.1.tl.hd
  refine W.eq (g2 := F0 m pc la (.int (Int32.ofInt x) :: .int (Int32.ofInt i) :: .ref (ad a) :: st2.map (cv ad fo))) (by rw [List.map_cons, List.map_cons, List.map_cons, cv_ref (by omega)]; rfl) ?_
  have hq := nWs_get (E := E) (ad := ad) h28 hl
  rw [enc_z hs] at hq
  refine va_zast hx hb hK hP hD hS (a - 28) 1 hq rfl (ix_in ii hin) hd fun H1 locs1 g1 g2 g3 => ?_
  have hnar : vp_nar .boolean (Int32.ofInt x) = Int32.ofInt x := by rcases hz with rfl | rfl <;> decide
  refine hg _ _ _ _ _ _ _ _ _ _ hw2 (hi.hp rfl hi.2.2.1.tl.tl.tl (nW_put hi.2.2.2.1 h28 rfl (fun b j hb => up2_ne hb) (fun b j _ => rfl) (fun b j _ => rfl) (okH_putI ho hi.2.2.1.hd (fun _ _ => hz)) ?_ g1 g2 g3))
  rw [enc_z (h := putI h a i.toNat x) hs, ix_cl ii, hnar]
  congr 4
  funext j
  show Int32.ofInt (up2 h.2.1 a i.toNat x a j) = upd _ _ _ j
  unfold up2 upd
  by_cases e : j = i.toNat
  · rw [if_pos ⟨rfl, e⟩, if_pos e]
  · rw [if_neg (fun q => e q.2), if_neg e]
theorem s_lastore (hx : p.tables.exec = Jvm.exec) (hb : c.code = r.2.1) (hg : Gw p l e R s m args below meth c Qw fo E D A n0 ad0 nL K) (hd : decode r.2.1 pc = .ok (.lastore, len)) (hw : stepF K C r pc len .lastore ls st h cs sl Q) (hi : Inv fo E D A n0 ad0 s nL ls st h la H locs ad) : W p l e R s m args below meth c H locs cs sl Qw (F0 m pc la (st.map (cv ad fo))) := by
  obtain ⟨rfl, hw⟩ := hw
  obtain ⟨x, st0, rfl, hw0⟩ := pL_inv hw
  obtain ⟨i, st1, rfl, hw1⟩ := pI_inv hw0
  obtain ⟨a, st2, rfl, h28, ⟨n, hs, hin⟩, hw2⟩ := pA_inv hw1
  obtain ⟨hK, hP, hD, hS, hA, hC, hWd, ho⟩ := id hi.2.2.2.1
  have hl : a < h.1.length := (List.getElem?_eq_some_iff.mp hs).1
  have ii : inI i := hi.2.2.1.tl.hd
  refine W.eq (g2 := F0 m pc la (.long x :: .int (Int32.ofInt i) :: .ref (ad a) :: st2.map (cv ad fo))) (by rw [List.map_cons, List.map_cons, List.map_cons, cv_ref (by omega)]; rfl) ?_
  have hq := nWs_get (E := E) (ad := ad) h28 hl
  rw [enc_l hs] at hq
  refine va_last hx hb hK hP hD hS (a - 28) 2 hq rfl (ix_in ii hin) hd fun H1 locs1 g1 g2 g3 => ?_
  refine hg _ _ _ _ _ _ _ _ _ _ hw2 (hi.hp rfl hi.2.2.1.tl.tl.tl (nW_put hi.2.2.2.1 h28 rfl (fun b j _ => rfl) (fun b j _ => rfl) (fun b j hb => up2_ne hb) (okH_putL ho) ?_ g1 g2 g3))
  rw [enc_l (h := putL h a i.toNat x) hs, ix_cl ii]
  congr 5
  funext j
  show up2 h.2.2.2 a i.toNat x a j = vp_updL _ _ _ j
  unfold up2 vp_updL
  by_cases e : j = i.toNat
  · rw [if_pos ⟨rfl, e⟩, if_pos e]
  · rw [if_neg (fun q => e q.2), if_neg e]
theorem s_aastore (hx : p.tables.exec = Jvm.exec) (hb : c.code = r.2.1) (hg : Gw p l e R s m args below meth c Qw fo E D A n0 ad0 nL K) (hd : decode r.2.1 pc = .ok (.aastore, len)) (hw : stepF K C r pc len .aastore ls st h cs sl Q) (hi : Inv fo E D A n0 ad0 s nL ls st h la H locs ad) : W p l e R s m args below meth c H locs cs sl Qw (F0 m pc la (st.map (cv ad fo))) := by
  obtain ⟨rfl, hw⟩ := hw
  obtain ⟨x, st0, rfl, hw0⟩ := pA_inv hw
  obtain ⟨i, st1, rfl, hw1⟩ := pI_inv hw0
  obtain ⟨a, st2, rfl, ⟨k, n, ci, n', hs, hsx, hk, hin⟩, hw2⟩ := pA_inv hw1
  obtain ⟨hK, hP, hD, hS, hA, hC, hWd, ho⟩ := id hi.2.2.2.1
  have hl : a < h.1.length := (List.getElem?_eq_some_iff.mp hs).1
  have hlx : x < h.1.length := (List.getElem?_eq_some_iff.mp hsx).1
  have ii : inI i := hi.2.2.1.tl.hd
  have h28 : 28 ≤ a := ref_28 ho hs (by omega)
  have h28x : 28 ≤ x := ref_28 ho hsx (by omega)
  refine W.eq (g2 := F0 m pc la (.ref (ad x) :: .int (Int32.ofInt i) :: .ref (ad a) :: st2.map (cv ad fo))) (by rw [List.map_cons, List.map_cons, List.map_cons, cv_ref (by omega), cv_ref (by omega)]; rfl) ?_
  have hq := nWs_get (E := E) (ad := ad) h28 hl
  rw [enc_q hs (by omega)] at hq
  obtain ⟨ts, hts⟩ := nFT_of (k := ci) (by omega)
  have hqx := nWs_get (E := E) (ad := ad) h28x hlx
  rw [enc_obj hsx hts] at hqx
  have hend : ∀ (H1 : Heap) (locs1 : List Loc), va_P D nCl ((nWs E ad h).set (a - 28) (ad a, .inl (E k, n, .inr (.inr (.inr (.inr (va_up (fun i => (h.2.2.1 a i).map ad) (Int32.ofInt i).toNatClampNeg (some (ad x))))))))) H1 → va_D A ((nWs E ad h).set (a - 28) (ad a, .inl (E k, n, .inr (.inr (.inr (.inr (va_up (fun i => (h.2.2.1 a i).map ad) (Int32.ofInt i).toNatClampNeg (some (ad x))))))))) → va_S A s.heap H1 locs1 → W p l e R s m args below meth c H1 locs1 cs sl Qw (F0 m (pc + 1) la (st2.map (cv ad fo))) := fun H1 locs1 g1 g2 g3 => by
    refine hg _ _ _ _ _ _ _ _ _ _ hw2 (hi.hp rfl hi.2.2.1.tl.tl.tl (nW_put hi.2.2.2.1 h28 rfl (fun b j _ => rfl) (fun b j hb => up2_ne hb) (fun b j _ => rfl) (okH_putR ho (fun b hb => by cases hb; exact ⟨hlx, by omega⟩)) ?_ g1 g2 g3))
    rw [enc_q (h := putR h a i.toNat (some x)) hs (by omega), ix_cl ii]
    congr 7
    funext j
    show (up2 h.2.2.1 a i.toNat (some x) a j).map ad = va_up _ _ _ j
    unfold up2 va_up
    by_cases e : j = i.toNat
    · rw [if_pos ⟨rfl, e⟩, if_pos e]; rfl
    · rw [if_neg (fun q => e q.2), if_neg e]
  rcases hk with ⟨rfl, rfl⟩ | ⟨rfl, rfl⟩
  · exact va_astq (r := ("NumberedText$Item", nF3, 8)) hx hb hK hP hD hS (a - 28) 3 (x - 28) 3 hq rfl hqx rfl (ix_in ii hin) hd hend
  · exact va_astq (r := ("NumberedText$Text", nF1, 3)) hx hb hK hP hD hS (a - 28) 4 (x - 28) 1 hq rfl hqx rfl (ix_in ii hin) hd hend
end SNDF
