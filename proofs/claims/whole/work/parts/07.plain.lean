/-! the plain instructions of the interpreter are the machine's -/
def Gw (p : Program) (l : Launch) (e : Env) (R : Room) (s : State) (m : MethodId) (args : Array Value) (below : List Frame) (meth : Method) (c : Code) (Qw : State → Prop) (fo : Option Nat) (E : Nat → ClassId) (D : va_G) (A : Nat → Prop) (n0 : Nat) (ad0 : Nat → Nat) (nL : Nat) (K : Nat → Lc → List Vl → Hp → Nat → Nat → Prop) : Prop :=
  ∀ pc ls st h cs sl la H locs ad, K pc ls st h cs sl → Inv fo E D A n0 ad0 s nL ls st h la H locs ad → W p l e R s m args below meth c H locs cs sl Qw (F0 m pc la (st.map (cv ad fo)))
theorem pI_inv {st : List Vl} {k : Int → List Vl → Prop} (h : pI st k) : ∃ x r, st = .inl x :: r ∧ k x r := by
  unfold pI at h
  split at h
  · exact ⟨_, _, rfl, h⟩
  · exact h.elim
theorem pL_inv {st : List Vl} {k : Int64 → List Vl → Prop} (h : pL st k) : ∃ x r, st = .inr (.inl x) :: r ∧ k x r := by
  unfold pL at h
  split at h
  · exact ⟨_, _, rfl, h⟩
  · exact h.elim
theorem pA_inv {st : List Vl} {k : Nat → List Vl → Prop} (h : pA st k) : ∃ x r, st = .inr (.inr (some x)) :: r ∧ k x r := by
  unfold pA at h
  split at h
  · exact ⟨_, _, rfl, h⟩
  · exact h.elim
theorem pV_inv {st : List Vl} {k : Vl → List Vl → Prop} (h : pV st k) : ∃ x r, st = x :: r ∧ k x r := by
  unfold pV at h
  split at h
  · exact ⟨_, _, rfl, h⟩
  · exact h.elim
theorem gI_inv {ls : Lc} {i : Nat} {k : Int → Prop} (h : gI ls i k) : ∃ x, ls[i]? = some (some (.inl x)) ∧ k x := by
  unfold gI at h
  split at h
  · rename_i x hx
    exact ⟨x, hx, h⟩
  · exact h.elim
theorem gL_inv {ls : Lc} {i : Nat} {k : Int64 → Prop} (h : gL ls i k) : ∃ x, ls[i]? = some (some (.inr (.inl x))) ∧ k x := by
  unfold gL at h
  split at h
  · rename_i x hx
    exact ⟨x, hx, h⟩
  · exact h.elim
theorem gR_inv {ls : Lc} {i : Nat} {k : Option Nat → Prop} (h : gR ls i k) : ∃ x, ls[i]? = some (some (.inr (.inr x))) ∧ k x := by
  unfold gR at h
  split at h
  · rename_i x hx
    exact ⟨x, hx, h⟩
  · exact h.elim
section SNDA
variable {p : Program} {l : Launch} {e : Env} {R : Room} {s : State} {m : MethodId} {args : Array Value} {below : List Frame} {meth : Method} {c : Code} {Qw : State → Prop} {fo : Option Nat} {E : Nat → ClassId} {D : va_G} {A : Nat → Prop} {n0 : Nat} {ad0 : Nat → Nat} {nL : Nat}
variable {K : Nat → Lc → List Vl → Hp → Nat → Nat → Prop} {C : Nat → Lc → Hp → (Option Vl → Hp → Prop) → Prop} {r : MR} {pc len : Nat} {ls : Lc} {st : List Vl} {h : Hp} {cs sl : Nat} {Q : Option Vl → Hp → Prop} {la : Array Slot} {H : Heap} {locs : List Loc} {ad : Nat → Nat}
theorem W_top {v : Vl} {w : Value} {st : List Vl} (hv : cv ad fo v = w) (k : W p l e R s m args below meth c H locs cs sl Qw (F0 m pc la ((v :: st).map (cv ad fo)))) : W p l e R s m args below meth c H locs cs sl Qw (F0 m pc la (w :: st.map (cv ad fo))) := by rw [← hv]; exact k
theorem s_iconst {n : Int} (hx : p.tables.exec = Jvm.exec) (hb : c.code = r.2.1) (hg : Gw p l e R s m args below meth c Qw fo E D A n0 ad0 nL K) (hd : decode r.2.1 pc = .ok (.iconst n, len)) (hw : stepF K C r pc len (.iconst n) ls st h cs sl Q) (hi : Inv fo E D A n0 ad0 s nL ls st h la H locs ad) : W p l e R s m args below meth c H locs cs sl Qw (F0 m pc la (st.map (cv ad fo))) := by
  obtain ⟨rfl, hn, hw⟩ := hw
  refine lv_iconst hx hb hd rfl ?_
  exact W_top (v := .inl n) rfl (hg _ _ _ _ _ _ _ _ _ _ hw (hi.st (.cons hn hi.2.2.1)))
theorem s_lconst {n : Fin 2} (hx : p.tables.exec = Jvm.exec) (hb : c.code = r.2.1) (hg : Gw p l e R s m args below meth c Qw fo E D A n0 ad0 nL K) (hd : decode r.2.1 pc = .ok (.lconst n, len)) (hw : stepF K C r pc len (.lconst n) ls st h cs sl Q) (hi : Inv fo E D A n0 ad0 s nL ls st h la H locs ad) : W p l e R s m args below meth c H locs cs sl Qw (F0 m pc la (st.map (cv ad fo))) := by
  obtain ⟨rfl, hw⟩ := hw
  refine lv_lconst hx hb hd rfl ?_
  exact W_top (v := .inr (.inl (Int64.ofNat (n : Nat)))) rfl (hg _ _ _ _ _ _ _ _ _ _ hw (hi.st (.cons trivial hi.2.2.1)))
theorem s_bipush {n : Int} (hx : p.tables.exec = Jvm.exec) (hb : c.code = r.2.1) (hg : Gw p l e R s m args below meth c Qw fo E D A n0 ad0 nL K) (hd : decode r.2.1 pc = .ok (.bipush n, len)) (hw : stepF K C r pc len (.bipush n) ls st h cs sl Q) (hi : Inv fo E D A n0 ad0 s nL ls st h la H locs ad) : W p l e R s m args below meth c H locs cs sl Qw (F0 m pc la (st.map (cv ad fo))) := by
  obtain ⟨rfl, hw⟩ := hw
  refine lv_bipush hx hb hd rfl ?_
  exact W_top (cv_i _ _ _) (hg _ _ _ _ _ _ _ _ _ _ hw (hi.st (.cons (okV_i _ _) hi.2.2.1)))
theorem s_sipush {n : Int} (hx : p.tables.exec = Jvm.exec) (hb : c.code = r.2.1) (hg : Gw p l e R s m args below meth c Qw fo E D A n0 ad0 nL K) (hd : decode r.2.1 pc = .ok (.sipush n, len)) (hw : stepF K C r pc len (.sipush n) ls st h cs sl Q) (hi : Inv fo E D A n0 ad0 s nL ls st h la H locs ad) : W p l e R s m args below meth c H locs cs sl Qw (F0 m pc la (st.map (cv ad fo))) := by
  obtain ⟨rfl, hw⟩ := hw
  refine lv_sipush hx hb hd rfl ?_
  exact W_top (cv_i _ _ _) (hg _ _ _ _ _ _ _ _ _ _ hw (hi.st (.cons (okV_i _ _) hi.2.2.1)))
theorem s_iload {i : Nat} (hx : p.tables.exec = Jvm.exec) (hb : c.code = r.2.1) (hg : Gw p l e R s m args below meth c Qw fo E D A n0 ad0 nL K) (hd : decode r.2.1 pc = .ok (.iload i, len)) (hw : stepF K C r pc len (.iload i) ls st h cs sl Q) (hi : Inv fo E D A n0 ad0 s nL ls st h la H locs ad) : W p l e R s m args below meth c H locs cs sl Qw (F0 m pc la (st.map (cv ad fo))) := by
  obtain ⟨rfl, hw⟩ := hw
  obtain ⟨x, hx1, hw⟩ := gI_inv hw
  refine lv_iload hx hb hd (lc_get (ad := ad) (fo := fo) hi.1.1 hx1) ?_
  exact W_top (v := .inl x) rfl (hg _ _ _ _ _ _ _ _ _ _ hw (hi.st (.cons (hi.2.1.get hx1) hi.2.2.1)))
theorem s_iload_n {i : Fin 4} (hx : p.tables.exec = Jvm.exec) (hb : c.code = r.2.1) (hg : Gw p l e R s m args below meth c Qw fo E D A n0 ad0 nL K) (hd : decode r.2.1 pc = .ok (.iload_n i, len)) (hw : stepF K C r pc len (.iload_n i) ls st h cs sl Q) (hi : Inv fo E D A n0 ad0 s nL ls st h la H locs ad) : W p l e R s m args below meth c H locs cs sl Qw (F0 m pc la (st.map (cv ad fo))) := by
  obtain ⟨rfl, hw⟩ := hw
  obtain ⟨x, hx1, hw⟩ := gI_inv hw
  refine lv_iload_n hx hb hd rfl (lc_get (ad := ad) (fo := fo) hi.1.1 hx1) ?_
  exact W_top (v := .inl x) rfl (hg _ _ _ _ _ _ _ _ _ _ hw (hi.st (.cons (hi.2.1.get hx1) hi.2.2.1)))
theorem s_lload {i : Nat} (hx : p.tables.exec = Jvm.exec) (hb : c.code = r.2.1) (hg : Gw p l e R s m args below meth c Qw fo E D A n0 ad0 nL K) (hd : decode r.2.1 pc = .ok (.lload i, len)) (hw : stepF K C r pc len (.lload i) ls st h cs sl Q) (hi : Inv fo E D A n0 ad0 s nL ls st h la H locs ad) : W p l e R s m args below meth c H locs cs sl Qw (F0 m pc la (st.map (cv ad fo))) := by
  obtain ⟨rfl, hw⟩ := hw
  obtain ⟨x, hx1, hw⟩ := gL_inv hw
  refine lv_lload hx hb hd (lc_get (ad := ad) (fo := fo) hi.1.1 hx1) ?_
  exact W_top (v := .inr (.inl x)) rfl (hg _ _ _ _ _ _ _ _ _ _ hw (hi.st (.cons (hi.2.1.get hx1) hi.2.2.1)))
theorem s_lload_n {i : Fin 4} (hx : p.tables.exec = Jvm.exec) (hb : c.code = r.2.1) (hg : Gw p l e R s m args below meth c Qw fo E D A n0 ad0 nL K) (hd : decode r.2.1 pc = .ok (.lload_n i, len)) (hw : stepF K C r pc len (.lload_n i) ls st h cs sl Q) (hi : Inv fo E D A n0 ad0 s nL ls st h la H locs ad) : W p l e R s m args below meth c H locs cs sl Qw (F0 m pc la (st.map (cv ad fo))) := by
  obtain ⟨rfl, hw⟩ := hw
  obtain ⟨x, hx1, hw⟩ := gL_inv hw
  refine lv_lload_n hx hb hd rfl (lc_get (ad := ad) (fo := fo) hi.1.1 hx1) ?_
  exact W_top (v := .inr (.inl x)) rfl (hg _ _ _ _ _ _ _ _ _ _ hw (hi.st (.cons (hi.2.1.get hx1) hi.2.2.1)))
theorem s_nul {i : Nat} {rest : List Value} (hx : p.tables.exec = Jvm.exec) (hb : c.code = r.2.1) (hd : decode r.2.1 pc = .ok (.aload i, 2)) (hl : la[(i : Nat)]? = some (.val .null)) (k : W p l e R s m args below meth c H locs cs sl Qw (F0 m (pc + 2) la (.null :: rest))) : W p l e R s m args below meth c H locs cs sl Qw (F0 m pc la rest) := by
  intro T hT X
  obtain ⟨t, a, b⟩ := k T hT X
  refine ⟨t, ?_, b⟩
  jvm_step X.here [X.here.top, hx, hb, hd, hl]
  exact ⟨rfl, a⟩
theorem s_nul_n {i : Fin 4} {rest : List Value} (hx : p.tables.exec = Jvm.exec) (hb : c.code = r.2.1) (hd : decode r.2.1 pc = .ok (.aload_n i, 1)) (hl : la[(i : Nat)]? = some (.val .null)) (k : W p l e R s m args below meth c H locs cs sl Qw (F0 m (pc + 1) la (.null :: rest))) : W p l e R s m args below meth c H locs cs sl Qw (F0 m pc la rest) := by
  intro T hT X
  obtain ⟨t, a, b⟩ := k T hT X
  refine ⟨t, ?_, b⟩
  jvm_step X.here [X.here.top, hx, hb, hd, hl]
  exact ⟨rfl, a⟩
theorem s_aload {i : Nat} (hx : p.tables.exec = Jvm.exec) (hb : c.code = r.2.1) (hg : Gw p l e R s m args below meth c Qw fo E D A n0 ad0 nL K) (hd : decode r.2.1 pc = .ok (.aload i, len)) (hw : stepF K C r pc len (.aload i) ls st h cs sl Q) (hi : Inv fo E D A n0 ad0 s nL ls st h la H locs ad) : W p l e R s m args below meth c H locs cs sl Qw (F0 m pc la (st.map (cv ad fo))) := by
  obtain ⟨rfl, hw⟩ := hw
  obtain ⟨x, hx1, hw⟩ := gR_inv hw
  have hl := lc_get (ad := ad) (fo := fo) hi.1.1 hx1
  have hk := hg _ _ _ _ _ _ _ _ _ _ hw (hi.st (.cons (hi.2.1.get hx1) hi.2.2.1))
  rcases x with _ | a
  · exact s_nul hx hb hd hl hk
  · have hl2 : la[(i : Nat)]? = some (.val (if a = 27 then va_rf fo else Value.ref (ad a))) := hl
    by_cases ha : a = 27
    · rw [if_pos ha] at hl2
      cases fo with
      | none => exact s_nul hx hb hd hl2 (W.eq (by simp [cv, cvr, ha, va_rf]) hk)
      | some b => refine lv_aload hx hb hd hl2 (W.eq (by simp [cv, cvr, ha, va_rf]) hk)
    · rw [if_neg ha] at hl2
      exact lv_aload hx hb hd hl2 (W.eq (by simp [cv, cvr, ha]) hk)
theorem s_aload_n {i : Fin 4} (hx : p.tables.exec = Jvm.exec) (hb : c.code = r.2.1) (hg : Gw p l e R s m args below meth c Qw fo E D A n0 ad0 nL K) (hd : decode r.2.1 pc = .ok (.aload_n i, len)) (hw : stepF K C r pc len (.aload_n i) ls st h cs sl Q) (hi : Inv fo E D A n0 ad0 s nL ls st h la H locs ad) : W p l e R s m args below meth c H locs cs sl Qw (F0 m pc la (st.map (cv ad fo))) := by
  obtain ⟨rfl, hw⟩ := hw
  obtain ⟨x, hx1, hw⟩ := gR_inv hw
  have hl := lc_get (ad := ad) (fo := fo) hi.1.1 hx1
  have hk := hg _ _ _ _ _ _ _ _ _ _ hw (hi.st (.cons (hi.2.1.get hx1) hi.2.2.1))
  rcases x with _ | a
  · exact s_nul_n hx hb hd hl hk
  · have hl2 : la[((i : Nat) : Nat)]? = some (.val (if a = 27 then va_rf fo else Value.ref (ad a))) := hl
    by_cases ha : a = 27
    · rw [if_pos ha] at hl2
      cases fo with
      | none => exact s_nul_n hx hb hd hl2 (W.eq (by simp [cv, cvr, ha, va_rf]) hk)
      | some b => refine lv_aload_n hx hb hd rfl hl2 (W.eq (by simp [cv, cvr, ha, va_rf]) hk)
    · rw [if_neg ha] at hl2
      exact lv_aload_n hx hb hd rfl hl2 (W.eq (by simp [cv, cvr, ha]) hk)
theorem s_istore {i : Nat} (hx : p.tables.exec = Jvm.exec) (hb : c.code = r.2.1) (hg : Gw p l e R s m args below meth c Qw fo E D A n0 ad0 nL K) (hd : decode r.2.1 pc = .ok (.istore i, len)) (hw : stepF K C r pc len (.istore i) ls st h cs sl Q) (hi : Inv fo E D A n0 ad0 s nL ls st h la H locs ad) : W p l e R s m args below meth c H locs cs sl Qw (F0 m pc la (st.map (cv ad fo))) := by
  obtain ⟨rfl, hl, hn, hw⟩ := hw
  obtain ⟨x, st, rfl, hw⟩ := pI_inv hw
  refine lv_istore hx hb hd hi.1.1 (by rw [← hi.1.2]; exact hl) rfl fun la2 h2 => ?_
  exact hg _ _ _ _ _ _ _ _ _ _ hw ⟨⟨h2.mono (lc_set (v := .inl x) hn), by rw [List.length_set]; exact hi.1.2⟩, hi.2.1.set hi.2.2.1.hd, hi.2.2.1.tl, hi.2.2.2⟩
theorem s_istore_n {i : Fin 4} (hx : p.tables.exec = Jvm.exec) (hb : c.code = r.2.1) (hg : Gw p l e R s m args below meth c Qw fo E D A n0 ad0 nL K) (hd : decode r.2.1 pc = .ok (.istore_n i, len)) (hw : stepF K C r pc len (.istore_n i) ls st h cs sl Q) (hi : Inv fo E D A n0 ad0 s nL ls st h la H locs ad) : W p l e R s m args below meth c H locs cs sl Qw (F0 m pc la (st.map (cv ad fo))) := by
  obtain ⟨rfl, hl, hn, hw⟩ := hw
  obtain ⟨x, st, rfl, hw⟩ := pI_inv hw
  refine lv_istore_n hx hb hd rfl hi.1.1 (by rw [← hi.1.2]; exact hl) rfl fun la2 h2 => ?_
  exact hg _ _ _ _ _ _ _ _ _ _ hw ⟨⟨h2.mono (lc_set (v := .inl x) hn), by rw [List.length_set]; exact hi.1.2⟩, hi.2.1.set hi.2.2.1.hd, hi.2.2.1.tl, hi.2.2.2⟩
theorem s_ast {i : Nat} {v : Value} {lv : List (Nat × Value)} {rest : List Value} (hx : p.tables.exec = Jvm.exec) (hb : c.code = r.2.1) (hd : decode r.2.1 pc = .ok (.astore i, 2)) (h : lv_has la nL lv) (hn : (i : Nat) < nL) (hc : v.category = 1) (hv : v = .null ∨ ∃ a, v = .ref a) (kk : ∀ la2, lv_has la2 nL (((i : Nat), v) :: lv.filter (fun q => !(q.1 == (i : Nat)) && !(q.1 + 1 == (i : Nat) && q.2.category == 2))) → W p l e R s m args below meth c H locs cs sl Qw (F0 m (pc + 2) la2 rest)) : W p l e R s m args below meth c H locs cs sl Qw (F0 m pc la (v :: rest)) := by
  obtain ⟨ls', e', h'⟩ := lv_store1 (v := v) h hn hc
  intro T hT X
  obtain ⟨t, a, b⟩ := kk ls' h' T hT X
  refine ⟨t, ?_, b⟩
  rcases hv with rfl | ⟨z, rfl⟩ <;> (jvm_step X.here [X.here.top, ↓top_set X.here.top, hx, hb, hd, e']; exact ⟨rfl, a⟩)
theorem s_ast_n {i : Fin 4} {v : Value} {lv : List (Nat × Value)} {rest : List Value} (hx : p.tables.exec = Jvm.exec) (hb : c.code = r.2.1) (hd : decode r.2.1 pc = .ok (.astore_n i, 1)) (h : lv_has la nL lv) (hn : (i : Nat) < nL) (hc : v.category = 1) (hv : v = .null ∨ ∃ a, v = .ref a) (kk : ∀ la2, lv_has la2 nL (((i : Nat), v) :: lv.filter (fun q => !(q.1 == (i : Nat)) && !(q.1 + 1 == (i : Nat) && q.2.category == 2))) → W p l e R s m args below meth c H locs cs sl Qw (F0 m (pc + 1) la2 rest)) : W p l e R s m args below meth c H locs cs sl Qw (F0 m pc la (v :: rest)) := by
  obtain ⟨ls', e', h'⟩ := lv_store1 (v := v) h hn hc
  intro T hT X
  obtain ⟨t, a, b⟩ := kk ls' h' T hT X
  refine ⟨t, ?_, b⟩
  rcases hv with rfl | ⟨z, rfl⟩ <;> (jvm_step X.here [X.here.top, ↓top_set X.here.top, hx, hb, hd, e']; exact ⟨rfl, a⟩)
theorem s_astore {i : Nat} (hx : p.tables.exec = Jvm.exec) (hb : c.code = r.2.1) (hg : Gw p l e R s m args below meth c Qw fo E D A n0 ad0 nL K) (hd : decode r.2.1 pc = .ok (.astore i, len)) (hw : stepF K C r pc len (.astore i) ls st h cs sl Q) (hi : Inv fo E D A n0 ad0 s nL ls st h la H locs ad) : W p l e R s m args below meth c H locs cs sl Qw (F0 m pc la (st.map (cv ad fo))) := by
  obtain ⟨rfl, hl, hn, hw⟩ := hw
  obtain ⟨x, st, rfl, hw⟩ := pA_inv hw
  have hkk : ∀ la2, lv_has la2 nL (((i : Nat), cv ad fo (.inr (.inr (some x)))) :: (cvL ad fo ls).filter (fun q => !(q.1 == (i : Nat)) && !(q.1 + 1 == (i : Nat) && q.2.category == 2))) → W p l e R s m args below meth c H locs cs sl Qw (F0 m (pc + 2) la2 (st.map (cv ad fo))) := fun la2 h2 => hg _ _ _ _ _ _ _ _ _ _ hw ⟨⟨h2.mono (lc_set (v := .inr (.inr (some x))) hn), by rw [List.length_set]; exact hi.1.2⟩, hi.2.1.set hi.2.2.1.hd, hi.2.2.1.tl, hi.2.2.2⟩
  have hl2 : (i : Nat) < nL := by rw [← hi.1.2]; exact hl
  by_cases ha : x = 27
  · exact s_ast hx hb hd hi.1.1 hl2 (cv_cat ad fo (.inr (.inr (some x)))) (by rw [show cv ad fo (.inr (.inr (some x))) = va_rf fo from if_pos ha]; cases fo; exact Or.inl rfl; exact Or.inr ⟨_, rfl⟩) hkk
  · exact s_ast hx hb hd hi.1.1 hl2 (cv_cat ad fo (.inr (.inr (some x)))) (by rw [show cv ad fo (.inr (.inr (some x))) = .ref (ad x) from if_neg ha]; exact Or.inr ⟨_, rfl⟩) hkk
theorem s_astore_n {i : Fin 4} (hx : p.tables.exec = Jvm.exec) (hb : c.code = r.2.1) (hg : Gw p l e R s m args below meth c Qw fo E D A n0 ad0 nL K) (hd : decode r.2.1 pc = .ok (.astore_n i, len)) (hw : stepF K C r pc len (.astore_n i) ls st h cs sl Q) (hi : Inv fo E D A n0 ad0 s nL ls st h la H locs ad) : W p l e R s m args below meth c H locs cs sl Qw (F0 m pc la (st.map (cv ad fo))) := by
  obtain ⟨rfl, hl, hn, hw⟩ := hw
  obtain ⟨x, st, rfl, hw⟩ := pA_inv hw
  have hkk : ∀ la2, lv_has la2 nL (((i : Nat), cv ad fo (.inr (.inr (some x)))) :: (cvL ad fo ls).filter (fun q => !(q.1 == (i : Nat)) && !(q.1 + 1 == (i : Nat) && q.2.category == 2))) → W p l e R s m args below meth c H locs cs sl Qw (F0 m (pc + 1) la2 (st.map (cv ad fo))) := fun la2 h2 => hg _ _ _ _ _ _ _ _ _ _ hw ⟨⟨h2.mono (lc_set (v := .inr (.inr (some x))) hn), by rw [List.length_set]; exact hi.1.2⟩, hi.2.1.set hi.2.2.1.hd, hi.2.2.1.tl, hi.2.2.2⟩
  have hl2 : (i : Nat) < nL := by rw [← hi.1.2]; exact hl
  by_cases ha : x = 27
  · exact s_ast_n hx hb hd hi.1.1 hl2 (cv_cat ad fo (.inr (.inr (some x)))) (by rw [show cv ad fo (.inr (.inr (some x))) = va_rf fo from if_pos ha]; cases fo; exact Or.inl rfl; exact Or.inr ⟨_, rfl⟩) hkk
  · exact s_ast_n hx hb hd hi.1.1 hl2 (cv_cat ad fo (.inr (.inr (some x)))) (by rw [show cv ad fo (.inr (.inr (some x))) = .ref (ad x) from if_neg ha]; exact Or.inr ⟨_, rfl⟩) hkk
theorem s_lstore {i : Nat} (hx : p.tables.exec = Jvm.exec) (hb : c.code = r.2.1) (hg : Gw p l e R s m args below meth c Qw fo E D A n0 ad0 nL K) (hd : decode r.2.1 pc = .ok (.lstore i, len)) (hw : stepF K C r pc len (.lstore i) ls st h cs sl Q) (hi : Inv fo E D A n0 ad0 s nL ls st h la H locs ad) : W p l e R s m args below meth c H locs cs sl Qw (F0 m pc la (st.map (cv ad fo))) := by
  obtain ⟨rfl, hl, hn, hw⟩ := hw
  obtain ⟨x, st, rfl, hw⟩ := pL_inv hw
  refine lv_lstore hx hb hd hi.1.1 (by rw [← hi.1.2]; exact hl) rfl fun la2 h2 => ?_
  exact hg _ _ _ _ _ _ _ _ _ _ hw ⟨⟨h2.mono (lc_set2 hn), by rw [List.length_set, List.length_set]; exact hi.1.2⟩, (hi.2.1.set (v := .inr (.inl x)) trivial).set0, hi.2.2.1.tl, hi.2.2.2⟩
theorem s_lstore_n {i : Fin 4} (hx : p.tables.exec = Jvm.exec) (hb : c.code = r.2.1) (hg : Gw p l e R s m args below meth c Qw fo E D A n0 ad0 nL K) (hd : decode r.2.1 pc = .ok (.lstore_n i, len)) (hw : stepF K C r pc len (.lstore_n i) ls st h cs sl Q) (hi : Inv fo E D A n0 ad0 s nL ls st h la H locs ad) : W p l e R s m args below meth c H locs cs sl Qw (F0 m pc la (st.map (cv ad fo))) := by
  obtain ⟨rfl, hl, hn, hw⟩ := hw
  obtain ⟨x, st, rfl, hw⟩ := pL_inv hw
  refine lv_lstore_n hx hb hd rfl hi.1.1 (by rw [← hi.1.2]; exact hl) rfl fun la2 h2 => ?_
  exact hg _ _ _ _ _ _ _ _ _ _ hw ⟨⟨h2.mono (lc_set2 hn), by rw [List.length_set, List.length_set]; exact hi.1.2⟩, (hi.2.1.set (v := .inr (.inl x)) trivial).set0, hi.2.2.1.tl, hi.2.2.2⟩
theorem s_iinc {i : Nat} {n : Int} (hx : p.tables.exec = Jvm.exec) (hb : c.code = r.2.1) (hg : Gw p l e R s m args below meth c Qw fo E D A n0 ad0 nL K) (hd : decode r.2.1 pc = .ok (.iinc i n, len)) (hw : stepF K C r pc len (.iinc i n) ls st h cs sl Q) (hi : Inv fo E D A n0 ad0 s nL ls st h la H locs ad) : W p l e R s m args below meth c H locs cs sl Qw (F0 m pc la (st.map (cv ad fo))) := by
  obtain ⟨rfl, hl, hn, hw⟩ := hw
  obtain ⟨x, hx1, hw⟩ := gI_inv hw
  obtain ⟨k, hk⟩ := List.getElem?_of_mem (mem_cvL.mpr ⟨_, hx1, rfl⟩ : (i, cv ad fo (.inl x)) ∈ cvL ad fo ls)
  refine lv_iinc hx hb hd hi.1.1 hk rfl (by rw [← hi.1.2]; exact hl) rfl fun la2 h2 => ?_
  exact hg _ _ _ _ _ _ _ _ _ _ hw ⟨⟨h2.mono (by rw [← cv_i ad fo]; exact lc_set hn), by rw [List.length_set]; exact hi.1.2⟩, hi.2.1.set (okV_i _ _), hi.2.2.1, hi.2.2.2⟩
theorem s_iadd (hx : p.tables.exec = Jvm.exec) (hb : c.code = r.2.1) (hg : Gw p l e R s m args below meth c Qw fo E D A n0 ad0 nL K) (hd : decode r.2.1 pc = .ok (.iadd, len)) (hw : stepF K C r pc len (.iadd) ls st h cs sl Q) (hi : Inv fo E D A n0 ad0 s nL ls st h la H locs ad) : W p l e R s m args below meth c H locs cs sl Qw (F0 m pc la (st.map (cv ad fo))) := by
  obtain ⟨rfl, hw⟩ := hw
  obtain ⟨y, st1, rfl, hw1⟩ := pI_inv hw
  obtain ⟨x, st, rfl, hw⟩ := pI_inv hw1
  refine lv_iadd hx hb hd ?_
  exact W_top (cv_i _ _ _) (hg _ _ _ _ _ _ _ _ _ _ hw (hi.st (.cons (okV_i _ _) hi.2.2.1.tl.tl)))
theorem s_isub (hx : p.tables.exec = Jvm.exec) (hb : c.code = r.2.1) (hg : Gw p l e R s m args below meth c Qw fo E D A n0 ad0 nL K) (hd : decode r.2.1 pc = .ok (.isub, len)) (hw : stepF K C r pc len (.isub) ls st h cs sl Q) (hi : Inv fo E D A n0 ad0 s nL ls st h la H locs ad) : W p l e R s m args below meth c H locs cs sl Qw (F0 m pc la (st.map (cv ad fo))) := by
  obtain ⟨rfl, hw⟩ := hw
  obtain ⟨y, st1, rfl, hw1⟩ := pI_inv hw
  obtain ⟨x, st, rfl, hw⟩ := pI_inv hw1
  refine lv_isub hx hb hd ?_
  exact W_top (cv_i _ _ _) (hg _ _ _ _ _ _ _ _ _ _ hw (hi.st (.cons (okV_i _ _) hi.2.2.1.tl.tl)))
theorem s_imul (hx : p.tables.exec = Jvm.exec) (hb : c.code = r.2.1) (hg : Gw p l e R s m args below meth c Qw fo E D A n0 ad0 nL K) (hd : decode r.2.1 pc = .ok (.imul, len)) (hw : stepF K C r pc len (.imul) ls st h cs sl Q) (hi : Inv fo E D A n0 ad0 s nL ls st h la H locs ad) : W p l e R s m args below meth c H locs cs sl Qw (F0 m pc la (st.map (cv ad fo))) := by
  obtain ⟨rfl, hw⟩ := hw
  obtain ⟨y, st1, rfl, hw1⟩ := pI_inv hw
  obtain ⟨x, st, rfl, hw⟩ := pI_inv hw1
  refine lv_imul hx hb hd ?_
  exact W_top (cv_i _ _ _) (hg _ _ _ _ _ _ _ _ _ _ hw (hi.st (.cons (okV_i _ _) hi.2.2.1.tl.tl)))
theorem s_iand (hx : p.tables.exec = Jvm.exec) (hb : c.code = r.2.1) (hg : Gw p l e R s m args below meth c Qw fo E D A n0 ad0 nL K) (hd : decode r.2.1 pc = .ok (.iand, len)) (hw : stepF K C r pc len (.iand) ls st h cs sl Q) (hi : Inv fo E D A n0 ad0 s nL ls st h la H locs ad) : W p l e R s m args below meth c H locs cs sl Qw (F0 m pc la (st.map (cv ad fo))) := by
  obtain ⟨rfl, hw⟩ := hw
  obtain ⟨y, st1, rfl, hw1⟩ := pI_inv hw
  obtain ⟨x, st, rfl, hw⟩ := pI_inv hw1
  refine lv_iand hx hb hd ?_
  exact W_top (cv_i _ _ _) (hg _ _ _ _ _ _ _ _ _ _ hw (hi.st (.cons (okV_i _ _) hi.2.2.1.tl.tl)))
theorem s_ior (hx : p.tables.exec = Jvm.exec) (hb : c.code = r.2.1) (hg : Gw p l e R s m args below meth c Qw fo E D A n0 ad0 nL K) (hd : decode r.2.1 pc = .ok (.ior, len)) (hw : stepF K C r pc len (.ior) ls st h cs sl Q) (hi : Inv fo E D A n0 ad0 s nL ls st h la H locs ad) : W p l e R s m args below meth c H locs cs sl Qw (F0 m pc la (st.map (cv ad fo))) := by
  obtain ⟨rfl, hw⟩ := hw
  obtain ⟨y, st1, rfl, hw1⟩ := pI_inv hw
  obtain ⟨x, st, rfl, hw⟩ := pI_inv hw1
  refine lv_ior hx hb hd ?_
  exact W_top (cv_i _ _ _) (hg _ _ _ _ _ _ _ _ _ _ hw (hi.st (.cons (okV_i _ _) hi.2.2.1.tl.tl)))
theorem s_ishl (hx : p.tables.exec = Jvm.exec) (hb : c.code = r.2.1) (hg : Gw p l e R s m args below meth c Qw fo E D A n0 ad0 nL K) (hd : decode r.2.1 pc = .ok (.ishl, len)) (hw : stepF K C r pc len (.ishl) ls st h cs sl Q) (hi : Inv fo E D A n0 ad0 s nL ls st h la H locs ad) : W p l e R s m args below meth c H locs cs sl Qw (F0 m pc la (st.map (cv ad fo))) := by
  obtain ⟨rfl, hw⟩ := hw
  obtain ⟨y, st1, rfl, hw1⟩ := pI_inv hw
  obtain ⟨x, st, rfl, hw⟩ := pI_inv hw1
  refine lv_ishl hx hb hd ?_
  exact W_top (cv_i _ _ _) (hg _ _ _ _ _ _ _ _ _ _ hw (hi.st (.cons (okV_i _ _) hi.2.2.1.tl.tl)))
theorem s_ishr (hx : p.tables.exec = Jvm.exec) (hb : c.code = r.2.1) (hg : Gw p l e R s m args below meth c Qw fo E D A n0 ad0 nL K) (hd : decode r.2.1 pc = .ok (.ishr, len)) (hw : stepF K C r pc len (.ishr) ls st h cs sl Q) (hi : Inv fo E D A n0 ad0 s nL ls st h la H locs ad) : W p l e R s m args below meth c H locs cs sl Qw (F0 m pc la (st.map (cv ad fo))) := by
  obtain ⟨rfl, hw⟩ := hw
  obtain ⟨y, st1, rfl, hw1⟩ := pI_inv hw
  obtain ⟨x, st, rfl, hw⟩ := pI_inv hw1
  refine lv_ishr hx hb hd ?_
  exact W_top (cv_i _ _ _) (hg _ _ _ _ _ _ _ _ _ _ hw (hi.st (.cons (okV_i _ _) hi.2.2.1.tl.tl)))
theorem s_idiv (hx : p.tables.exec = Jvm.exec) (hb : c.code = r.2.1) (hg : Gw p l e R s m args below meth c Qw fo E D A n0 ad0 nL K) (hd : decode r.2.1 pc = .ok (.idiv, len)) (hw : stepF K C r pc len (.idiv) ls st h cs sl Q) (hi : Inv fo E D A n0 ad0 s nL ls st h la H locs ad) : W p l e R s m args below meth c H locs cs sl Qw (F0 m pc la (st.map (cv ad fo))) := by
  obtain ⟨rfl, hw⟩ := hw
  obtain ⟨y, st1, rfl, hw1⟩ := pI_inv hw
  obtain ⟨x, st, rfl, hy, hw⟩ := pI_inv hw1
  refine lv_idiv hx hb hd (fun e => hy (by rw [← inI_of hi.2.2.1.hd, e]; rfl)) ?_
  exact W_top (cv_i _ _ _) (hg _ _ _ _ _ _ _ _ _ _ hw (hi.st (.cons (okV_i _ _) hi.2.2.1.tl.tl)))
theorem s_irem (hx : p.tables.exec = Jvm.exec) (hb : c.code = r.2.1) (hg : Gw p l e R s m args below meth c Qw fo E D A n0 ad0 nL K) (hd : decode r.2.1 pc = .ok (.irem, len)) (hw : stepF K C r pc len (.irem) ls st h cs sl Q) (hi : Inv fo E D A n0 ad0 s nL ls st h la H locs ad) : W p l e R s m args below meth c H locs cs sl Qw (F0 m pc la (st.map (cv ad fo))) := by
  obtain ⟨rfl, hw⟩ := hw
  obtain ⟨y, st1, rfl, hw1⟩ := pI_inv hw
  obtain ⟨x, st, rfl, hy, hw⟩ := pI_inv hw1
  refine lv_irem hx hb hd (fun e => hy (by rw [← inI_of hi.2.2.1.hd, e]; rfl)) ?_
  exact W_top (cv_i _ _ _) (hg _ _ _ _ _ _ _ _ _ _ hw (hi.st (.cons (okV_i _ _) hi.2.2.1.tl.tl)))
theorem s_ladd (hx : p.tables.exec = Jvm.exec) (hb : c.code = r.2.1) (hg : Gw p l e R s m args below meth c Qw fo E D A n0 ad0 nL K) (hd : decode r.2.1 pc = .ok (.ladd, len)) (hw : stepF K C r pc len (.ladd) ls st h cs sl Q) (hi : Inv fo E D A n0 ad0 s nL ls st h la H locs ad) : W p l e R s m args below meth c H locs cs sl Qw (F0 m pc la (st.map (cv ad fo))) := by
  obtain ⟨rfl, hw⟩ := hw
  obtain ⟨y, st1, rfl, hw1⟩ := pL_inv hw
  obtain ⟨x, st, rfl, hw⟩ := pL_inv hw1
  refine lv_ladd hx hb hd ?_
  exact W_top (v := .inr (.inl _)) rfl (hg _ _ _ _ _ _ _ _ _ _ hw (hi.st (.cons trivial hi.2.2.1.tl.tl)))
theorem s_lsub (hx : p.tables.exec = Jvm.exec) (hb : c.code = r.2.1) (hg : Gw p l e R s m args below meth c Qw fo E D A n0 ad0 nL K) (hd : decode r.2.1 pc = .ok (.lsub, len)) (hw : stepF K C r pc len (.lsub) ls st h cs sl Q) (hi : Inv fo E D A n0 ad0 s nL ls st h la H locs ad) : W p l e R s m args below meth c H locs cs sl Qw (F0 m pc la (st.map (cv ad fo))) := by
  obtain ⟨rfl, hw⟩ := hw
  obtain ⟨y, st1, rfl, hw1⟩ := pL_inv hw
  obtain ⟨x, st, rfl, hw⟩ := pL_inv hw1
  refine lv_lsub hx hb hd ?_
  exact W_top (v := .inr (.inl _)) rfl (hg _ _ _ _ _ _ _ _ _ _ hw (hi.st (.cons trivial hi.2.2.1.tl.tl)))
theorem s_lmul (hx : p.tables.exec = Jvm.exec) (hb : c.code = r.2.1) (hg : Gw p l e R s m args below meth c Qw fo E D A n0 ad0 nL K) (hd : decode r.2.1 pc = .ok (.lmul, len)) (hw : stepF K C r pc len (.lmul) ls st h cs sl Q) (hi : Inv fo E D A n0 ad0 s nL ls st h la H locs ad) : W p l e R s m args below meth c H locs cs sl Qw (F0 m pc la (st.map (cv ad fo))) := by
  obtain ⟨rfl, hw⟩ := hw
  obtain ⟨y, st1, rfl, hw1⟩ := pL_inv hw
  obtain ⟨x, st, rfl, hw⟩ := pL_inv hw1
  refine lv_lmul hx hb hd ?_
  exact W_top (v := .inr (.inl _)) rfl (hg _ _ _ _ _ _ _ _ _ _ hw (hi.st (.cons trivial hi.2.2.1.tl.tl)))
theorem s_land (hx : p.tables.exec = Jvm.exec) (hb : c.code = r.2.1) (hg : Gw p l e R s m args below meth c Qw fo E D A n0 ad0 nL K) (hd : decode r.2.1 pc = .ok (.land, len)) (hw : stepF K C r pc len (.land) ls st h cs sl Q) (hi : Inv fo E D A n0 ad0 s nL ls st h la H locs ad) : W p l e R s m args below meth c H locs cs sl Qw (F0 m pc la (st.map (cv ad fo))) := by
  obtain ⟨rfl, hw⟩ := hw
  obtain ⟨y, st1, rfl, hw1⟩ := pL_inv hw
  obtain ⟨x, st, rfl, hw⟩ := pL_inv hw1
  refine lv_land hx hb hd ?_
  exact W_top (v := .inr (.inl _)) rfl (hg _ _ _ _ _ _ _ _ _ _ hw (hi.st (.cons trivial hi.2.2.1.tl.tl)))
theorem s_lor (hx : p.tables.exec = Jvm.exec) (hb : c.code = r.2.1) (hg : Gw p l e R s m args below meth c Qw fo E D A n0 ad0 nL K) (hd : decode r.2.1 pc = .ok (.lor, len)) (hw : stepF K C r pc len (.lor) ls st h cs sl Q) (hi : Inv fo E D A n0 ad0 s nL ls st h la H locs ad) : W p l e R s m args below meth c H locs cs sl Qw (F0 m pc la (st.map (cv ad fo))) := by
  obtain ⟨rfl, hw⟩ := hw
  obtain ⟨y, st1, rfl, hw1⟩ := pL_inv hw
  obtain ⟨x, st, rfl, hw⟩ := pL_inv hw1
  refine lv_lor hx hb hd ?_
  exact W_top (v := .inr (.inl _)) rfl (hg _ _ _ _ _ _ _ _ _ _ hw (hi.st (.cons trivial hi.2.2.1.tl.tl)))
theorem s_lxor (hx : p.tables.exec = Jvm.exec) (hb : c.code = r.2.1) (hg : Gw p l e R s m args below meth c Qw fo E D A n0 ad0 nL K) (hd : decode r.2.1 pc = .ok (.lxor, len)) (hw : stepF K C r pc len (.lxor) ls st h cs sl Q) (hi : Inv fo E D A n0 ad0 s nL ls st h la H locs ad) : W p l e R s m args below meth c H locs cs sl Qw (F0 m pc la (st.map (cv ad fo))) := by
  obtain ⟨rfl, hw⟩ := hw
  obtain ⟨y, st1, rfl, hw1⟩ := pL_inv hw
  obtain ⟨x, st, rfl, hw⟩ := pL_inv hw1
  refine lv_lxor hx hb hd ?_
  exact W_top (v := .inr (.inl _)) rfl (hg _ _ _ _ _ _ _ _ _ _ hw (hi.st (.cons trivial hi.2.2.1.tl.tl)))
theorem s_lshl (hx : p.tables.exec = Jvm.exec) (hb : c.code = r.2.1) (hg : Gw p l e R s m args below meth c Qw fo E D A n0 ad0 nL K) (hd : decode r.2.1 pc = .ok (.lshl, len)) (hw : stepF K C r pc len (.lshl) ls st h cs sl Q) (hi : Inv fo E D A n0 ad0 s nL ls st h la H locs ad) : W p l e R s m args below meth c H locs cs sl Qw (F0 m pc la (st.map (cv ad fo))) := by
  obtain ⟨rfl, hw⟩ := hw
  obtain ⟨y, st1, rfl, hw1⟩ := pI_inv hw
  obtain ⟨x, st, rfl, hw⟩ := pL_inv hw1
  refine lv_lshl hx hb hd rfl ?_
  exact W_top (v := .inr (.inl _)) rfl (hg _ _ _ _ _ _ _ _ _ _ hw (hi.st (.cons trivial hi.2.2.1.tl.tl)))
theorem s_lshr (hx : p.tables.exec = Jvm.exec) (hb : c.code = r.2.1) (hg : Gw p l e R s m args below meth c Qw fo E D A n0 ad0 nL K) (hd : decode r.2.1 pc = .ok (.lshr, len)) (hw : stepF K C r pc len (.lshr) ls st h cs sl Q) (hi : Inv fo E D A n0 ad0 s nL ls st h la H locs ad) : W p l e R s m args below meth c H locs cs sl Qw (F0 m pc la (st.map (cv ad fo))) := by
  obtain ⟨rfl, hw⟩ := hw
  obtain ⟨y, st1, rfl, hw1⟩ := pI_inv hw
  obtain ⟨x, st, rfl, hw⟩ := pL_inv hw1
  refine lv_lshr hx hb hd rfl ?_
  exact W_top (v := .inr (.inl _)) rfl (hg _ _ _ _ _ _ _ _ _ _ hw (hi.st (.cons trivial hi.2.2.1.tl.tl)))
theorem s_lushr (hx : p.tables.exec = Jvm.exec) (hb : c.code = r.2.1) (hg : Gw p l e R s m args below meth c Qw fo E D A n0 ad0 nL K) (hd : decode r.2.1 pc = .ok (.lushr, len)) (hw : stepF K C r pc len (.lushr) ls st h cs sl Q) (hi : Inv fo E D A n0 ad0 s nL ls st h la H locs ad) : W p l e R s m args below meth c H locs cs sl Qw (F0 m pc la (st.map (cv ad fo))) := by
  obtain ⟨rfl, hw⟩ := hw
  obtain ⟨y, st1, rfl, hw1⟩ := pI_inv hw
  obtain ⟨x, st, rfl, hw⟩ := pL_inv hw1
  refine lv_lushr hx hb hd rfl ?_
  exact W_top (v := .inr (.inl _)) rfl (hg _ _ _ _ _ _ _ _ _ _ hw (hi.st (.cons trivial hi.2.2.1.tl.tl)))
theorem s_lcmp (hx : p.tables.exec = Jvm.exec) (hb : c.code = r.2.1) (hg : Gw p l e R s m args below meth c Qw fo E D A n0 ad0 nL K) (hd : decode r.2.1 pc = .ok (.lcmp, len)) (hw : stepF K C r pc len (.lcmp) ls st h cs sl Q) (hi : Inv fo E D A n0 ad0 s nL ls st h la H locs ad) : W p l e R s m args below meth c H locs cs sl Qw (F0 m pc la (st.map (cv ad fo))) := by
  obtain ⟨rfl, hw⟩ := hw
  obtain ⟨y, st1, rfl, hw1⟩ := pL_inv hw
  obtain ⟨x, st, rfl, hw⟩ := pL_inv hw1
  refine W.lcmp hx hb hd ?_
  exact W_top (cv_i _ _ _) (hg _ _ _ _ _ _ _ _ _ _ hw (hi.st (.cons (okV_i _ _) hi.2.2.1.tl.tl)))
theorem s_ineg (hx : p.tables.exec = Jvm.exec) (hb : c.code = r.2.1) (hg : Gw p l e R s m args below meth c Qw fo E D A n0 ad0 nL K) (hd : decode r.2.1 pc = .ok (.ineg, len)) (hw : stepF K C r pc len (.ineg) ls st h cs sl Q) (hi : Inv fo E D A n0 ad0 s nL ls st h la H locs ad) : W p l e R s m args below meth c H locs cs sl Qw (F0 m pc la (st.map (cv ad fo))) := by
  obtain ⟨rfl, hw⟩ := hw
  obtain ⟨x, st, rfl, hw⟩ := pI_inv hw
  refine lv_ineg hx hb hd ?_
  exact W_top (cv_i _ _ _) (hg _ _ _ _ _ _ _ _ _ _ hw (hi.st (.cons (okV_i _ _) hi.2.2.1.tl)))
theorem s_i2l (hx : p.tables.exec = Jvm.exec) (hb : c.code = r.2.1) (hg : Gw p l e R s m args below meth c Qw fo E D A n0 ad0 nL K) (hd : decode r.2.1 pc = .ok (.i2l, len)) (hw : stepF K C r pc len (.i2l) ls st h cs sl Q) (hi : Inv fo E D A n0 ad0 s nL ls st h la H locs ad) : W p l e R s m args below meth c H locs cs sl Qw (F0 m pc la (st.map (cv ad fo))) := by
  obtain ⟨rfl, hw⟩ := hw
  obtain ⟨x, st, rfl, hw⟩ := pI_inv hw
  refine lv_i2l hx hb hd rfl ?_
  exact W_top (v := .inr (.inl _)) rfl (hg _ _ _ _ _ _ _ _ _ _ hw (hi.st (.cons trivial hi.2.2.1.tl)))
theorem s_l2i (hx : p.tables.exec = Jvm.exec) (hb : c.code = r.2.1) (hg : Gw p l e R s m args below meth c Qw fo E D A n0 ad0 nL K) (hd : decode r.2.1 pc = .ok (.l2i, len)) (hw : stepF K C r pc len (.l2i) ls st h cs sl Q) (hi : Inv fo E D A n0 ad0 s nL ls st h la H locs ad) : W p l e R s m args below meth c H locs cs sl Qw (F0 m pc la (st.map (cv ad fo))) := by
  obtain ⟨rfl, hw⟩ := hw
  obtain ⟨x, st, rfl, hw⟩ := pL_inv hw
  refine lv_l2i hx hb hd rfl ?_
  exact W_top (cv_i _ _ _) (hg _ _ _ _ _ _ _ _ _ _ hw (hi.st (.cons (okV_i _ _) hi.2.2.1.tl)))
theorem s_i2c (hx : p.tables.exec = Jvm.exec) (hb : c.code = r.2.1) (hg : Gw p l e R s m args below meth c Qw fo E D A n0 ad0 nL K) (hd : decode r.2.1 pc = .ok (.i2c, len)) (hw : stepF K C r pc len (.i2c) ls st h cs sl Q) (hi : Inv fo E D A n0 ad0 s nL ls st h la H locs ad) : W p l e R s m args below meth c H locs cs sl Qw (F0 m pc la (st.map (cv ad fo))) := by
  obtain ⟨rfl, hw⟩ := hw
  obtain ⟨x, st, rfl, hw⟩ := pI_inv hw
  refine lv_i2c hx hb hd rfl ?_
  exact W_top (cv_i _ _ _) (hg _ _ _ _ _ _ _ _ _ _ hw (hi.st (.cons (okV_i _ _) hi.2.2.1.tl)))
theorem s_dup (hx : p.tables.exec = Jvm.exec) (hb : c.code = r.2.1) (hg : Gw p l e R s m args below meth c Qw fo E D A n0 ad0 nL K) (hd : decode r.2.1 pc = .ok (.dup, len)) (hw : stepF K C r pc len (.dup) ls st h cs sl Q) (hi : Inv fo E D A n0 ad0 s nL ls st h la H locs ad) : W p l e R s m args below meth c H locs cs sl Qw (F0 m pc la (st.map (cv ad fo))) := by
  obtain ⟨rfl, hw⟩ := hw
  obtain ⟨v, st, rfl, hc, hw⟩ := pV_inv hw
  refine lv_dup hx hb hd (by rw [cv_cat, hc]) ?_
  exact hg _ _ _ _ _ _ _ _ _ _ hw (hi.st (.cons hi.2.2.1.hd hi.2.2.1))
theorem s_pop (hx : p.tables.exec = Jvm.exec) (hb : c.code = r.2.1) (hg : Gw p l e R s m args below meth c Qw fo E D A n0 ad0 nL K) (hd : decode r.2.1 pc = .ok (.pop, len)) (hw : stepF K C r pc len (.pop) ls st h cs sl Q) (hi : Inv fo E D A n0 ad0 s nL ls st h la H locs ad) : W p l e R s m args below meth c H locs cs sl Qw (F0 m pc la (st.map (cv ad fo))) := by
  obtain ⟨rfl, hw⟩ := hw
  obtain ⟨v, st, rfl, hc, hw⟩ := pV_inv hw
  refine lv_pop hx hb hd (by rw [cv_cat, hc]) ?_
  exact hg _ _ _ _ _ _ _ _ _ _ hw (hi.st hi.2.2.1.tl)
theorem s_dup2 (hx : p.tables.exec = Jvm.exec) (hb : c.code = r.2.1) (hg : Gw p l e R s m args below meth c Qw fo E D A n0 ad0 nL K) (hd : decode r.2.1 pc = .ok (.dup2, len)) (hw : stepF K C r pc len (.dup2) ls st h cs sl Q) (hi : Inv fo E D A n0 ad0 s nL ls st h la H locs ad) : W p l e R s m args below meth c H locs cs sl Qw (F0 m pc la (st.map (cv ad fo))) := by
  obtain ⟨rfl, hw⟩ := hw
  obtain ⟨v, st1, rfl, hw1⟩ := pV_inv hw
  obtain ⟨w, st, rfl, hc, hc2, hw⟩ := pV_inv hw1
  refine lv_dup2_11 hx hb hd (by rw [cv_cat, hc]) (by rw [cv_cat, hc2]) ?_
  exact hg _ _ _ _ _ _ _ _ _ _ hw (hi.st (.cons hi.2.2.1.hd (.cons hi.2.2.1.tl.hd hi.2.2.1)))
theorem s_goto {off : Int} (hx : p.tables.exec = Jvm.exec) (hb : c.code = r.2.1) (hg : Gw p l e R s m args below meth c Qw fo E D A n0 ad0 nL K) (hd : decode r.2.1 pc = .ok (.goto off, len)) (hw : stepF K C r pc len (.goto off) ls st h cs sl Q) (hi : Inv fo E D A n0 ad0 s nL ls st h la H locs ad) : W p l e R s m args below meth c H locs cs sl Qw (F0 m pc la (st.map (cv ad fo))) := by
  obtain ⟨rfl, h0, hw⟩ := hw
  refine lv_goto (tgt := ((pc : Int) + off).toNat) hx hb hd (by omega) ?_
  exact hg _ _ _ _ _ _ _ _ _ _ hw hi
theorem i_lt {x y : Int} (h1 : inI x) (h2 : inI y) : Int32.ofInt x < Int32.ofInt y ↔ x < y := by rw [Int32.lt_iff_toInt_lt, inI_of h1, inI_of h2]
theorem i_le {x y : Int} (h1 : inI x) (h2 : inI y) : Int32.ofInt x ≤ Int32.ofInt y ↔ x ≤ y := by rw [Int32.le_iff_toInt_le, inI_of h1, inI_of h2]
theorem i_eq {x y : Int} (h1 : inI x) (h2 : inI y) : Int32.ofInt x = Int32.ofInt y ↔ x = y := by rw [← Int32.toInt_inj, inI_of h1, inI_of h2]
theorem inI_0 : inI 0 := by unfold inI; omega
theorem s_br_f2 {cc : ClassFile.Cond} {off : Int} {x y : Int} {rest : List Value} (hx : p.tables.exec = Jvm.exec) (hb : c.code = r.2.1) (hd : decode r.2.1 pc = .ok (.if_icmp cc off, 3)) (ix : inI x) (iy : inI y) (hc : ¬ cnd cc x y) (k : W p l e R s m args below meth c H locs cs sl Qw (F0 m (pc + 3) la rest)) : W p l e R s m args below meth c H locs cs sl Qw (F0 m pc la (.int (Int32.ofInt y) :: .int (Int32.ofInt x) :: rest)) := by
  intro T hT X
  obtain ⟨t, a, b⟩ := k T hT X
  refine ⟨t, ?_, b⟩
  have hP : Op.if_icmp.holds cc (Int32.ofInt x) (Int32.ofInt y) = false := by
    cases cc
    · simpa [Op.if_icmp.holds, i_eq ix iy, cnd] using hc
    · simpa [Op.if_icmp.holds, i_eq ix iy, cnd] using hc
    · simpa [Op.if_icmp.holds, i_lt ix iy, cnd] using hc
    · simpa [Op.if_icmp.holds, i_le iy ix, cnd] using hc
    · simpa [Op.if_icmp.holds, i_lt iy ix, cnd] using hc
    · simpa [Op.if_icmp.holds, i_le ix iy, cnd] using hc
  jvm_step X.here [X.here.top, hx, hb, hd, hP]
  exact a
theorem s_if_icmp {cc : ClassFile.Cond} {off : Int} (hx : p.tables.exec = Jvm.exec) (hb : c.code = r.2.1) (hg : Gw p l e R s m args below meth c Qw fo E D A n0 ad0 nL K) (hd : decode r.2.1 pc = .ok (.if_icmp cc off, len)) (hw : stepF K C r pc len (.if_icmp cc off) ls st h cs sl Q) (hi : Inv fo E D A n0 ad0 s nL ls st h la H locs ad) : W p l e R s m args below meth c H locs cs sl Qw (F0 m pc la (st.map (cv ad fo))) := by
  obtain ⟨rfl, hw⟩ := hw
  obtain ⟨y, st1, rfl, hw1⟩ := pI_inv hw
  obtain ⟨x, st, rfl, hw, hw2⟩ := pI_inv hw1
  have iy : inI y := hi.2.2.1.hd
  have ix : inI x := hi.2.2.1.tl.hd
  have kt : ∀ (tgt : Nat), cnd cc x y → (pc : Int) + off = (tgt : Int) → W p l e R s m args below meth c H locs cs sl Qw (F0 m tgt la (st.map (cv ad fo))) := fun tgt hc ht => by
    obtain ⟨h0, hw⟩ := hw hc
    have e9 : ((pc : Int) + off).toNat = tgt := by omega
    rw [e9] at hw
    exact hg _ _ _ _ _ _ _ _ _ _ hw (hi.st hi.2.2.1.tl.tl)
  have kf : ¬ cnd cc x y → W p l e R s m args below meth c H locs cs sl Qw (F0 m (pc + 3) la (st.map (cv ad fo))) := fun hc => hg _ _ _ _ _ _ _ _ _ _ (hw2 hc) (hi.st hi.2.2.1.tl.tl)
  by_cases hneg : cnd cc x y ∧ (pc : Int) + off < 0
  · exact absurd (hw hneg.1).1 (by omega)
  · obtain ⟨tgt, ht⟩ : ∃ tgt : Nat, cnd cc x y → (pc : Int) + off = (tgt : Int) := ⟨((pc : Int) + off).toNat, fun hc => by have := (hw hc).1; omega⟩
    by_cases hc : cnd cc x y
    · have ht2 := ht hc
      cases cc
      · exact lv_icmp_eq hx hb hd ht2 (fun q => kt tgt ((i_eq ix iy).mp q) ht2) (fun q => kf (fun z => q ((i_eq ix iy).mpr z)))
      · exact lv_icmp_ne hx hb hd ht2 (fun q => kt tgt (fun z => q ((i_eq ix iy).mpr z)) ht2) (fun q => kf (fun z => z ((i_eq ix iy).mp q)))
      · exact lv_icmp_lt hx hb hd ht2 (fun q => kt tgt ((i_lt ix iy).mp q) ht2) (fun q => kf (fun z => q ((i_lt ix iy).mpr z)))
      · exact lv_icmp_ge hx hb hd ht2 (fun q => kt tgt ((i_le iy ix).mp q) ht2) (fun q => kf (fun z => q ((i_le iy ix).mpr z)))
      · exact lv_icmp_gt hx hb hd ht2 (fun q => kt tgt ((i_lt iy ix).mp q) ht2) (fun q => kf (fun z => q ((i_lt iy ix).mpr z)))
      · exact lv_icmp_le hx hb hd ht2 (fun q => kt tgt ((i_le ix iy).mp q) ht2) (fun q => kf (fun z => q ((i_le ix iy).mpr z)))
    · exact s_br_f2 hx hb hd ix iy hc (kf hc)
theorem s_br_f1 {cc : ClassFile.Cond} {off : Int} {x : Int} {rest : List Value} (hx : p.tables.exec = Jvm.exec) (hb : c.code = r.2.1) (hd : decode r.2.1 pc = .ok (.ifCond cc off, 3)) (ix : inI x) (hc : ¬ cnd cc x 0) (k : W p l e R s m args below meth c H locs cs sl Qw (F0 m (pc + 3) la rest)) : W p l e R s m args below meth c H locs cs sl Qw (F0 m pc la (.int (Int32.ofInt x) :: rest)) := by
  intro T hT X
  obtain ⟨t, a, b⟩ := k T hT X
  refine ⟨t, ?_, b⟩
  have iy := inI_0
  have e1 : (Int32.ofInt x = 0) ↔ x = 0 := i_eq ix iy
  have e2 : (Int32.ofInt x < 0) ↔ x < 0 := i_lt ix iy
  have e3 : (0 < Int32.ofInt x) ↔ 0 < x := i_lt iy ix
  have e4 : (Int32.ofInt x ≤ 0) ↔ x ≤ 0 := i_le ix iy
  have e5 : (0 ≤ Int32.ofInt x) ↔ 0 ≤ x := i_le iy ix
  have hP : Op.ifCond.holds cc (Int32.ofInt x) = false := by
    cases cc
    · simp only [Op.ifCond.holds, decide_eq_false_iff_not, beq_eq_false_iff_ne, ne_eq, e1]; exact hc
    · simp only [Op.ifCond.holds, cnd, Decidable.not_not, bne_eq_false_iff_eq] at hc ⊢; simp [hc]
    · simp only [Op.ifCond.holds, decide_eq_false_iff_not, e2]; exact hc
    · simp only [Op.ifCond.holds, decide_eq_false_iff_not, ge_iff_le, e5]; exact hc
    · simp only [Op.ifCond.holds, decide_eq_false_iff_not, gt_iff_lt, e3]; exact hc
    · simp only [Op.ifCond.holds, decide_eq_false_iff_not, e4]; exact hc
  jvm_step X.here [X.here.top, hx, hb, hd, hP]
  exact a
theorem s_ifCond {cc : ClassFile.Cond} {off : Int} (hx : p.tables.exec = Jvm.exec) (hb : c.code = r.2.1) (hg : Gw p l e R s m args below meth c Qw fo E D A n0 ad0 nL K) (hd : decode r.2.1 pc = .ok (.ifCond cc off, len)) (hw : stepF K C r pc len (.ifCond cc off) ls st h cs sl Q) (hi : Inv fo E D A n0 ad0 s nL ls st h la H locs ad) : W p l e R s m args below meth c H locs cs sl Qw (F0 m pc la (st.map (cv ad fo))) := by
  obtain ⟨rfl, hw⟩ := hw
  obtain ⟨x, st, rfl, hw, hw2⟩ := pI_inv hw
  have iy := inI_0
  have ix : inI x := hi.2.2.1.hd
  have kt : ∀ (tgt : Nat), cnd cc x 0 → (pc : Int) + off = (tgt : Int) → W p l e R s m args below meth c H locs cs sl Qw (F0 m tgt la (st.map (cv ad fo))) := fun tgt hc ht => by
    obtain ⟨h0, hw⟩ := hw hc
    have e9 : ((pc : Int) + off).toNat = tgt := by omega
    rw [e9] at hw
    exact hg _ _ _ _ _ _ _ _ _ _ hw (hi.st hi.2.2.1.tl)
  have kf : ¬ cnd cc x 0 → W p l e R s m args below meth c H locs cs sl Qw (F0 m (pc + 3) la (st.map (cv ad fo))) := fun hc => hg _ _ _ _ _ _ _ _ _ _ (hw2 hc) (hi.st hi.2.2.1.tl)
  by_cases hneg : cnd cc x 0 ∧ (pc : Int) + off < 0
  · exact absurd (hw hneg.1).1 (by omega)
  · obtain ⟨tgt, ht⟩ : ∃ tgt : Nat, cnd cc x 0 → (pc : Int) + off = (tgt : Int) := ⟨((pc : Int) + off).toNat, fun hc => by have := (hw hc).1; omega⟩
    by_cases hc : cnd cc x 0
    · have ht2 := ht hc
      cases cc
      · exact lv_if_eq hx hb hd ht2 (fun q => kt tgt ((i_eq ix iy).mp q) ht2) (fun q => kf (fun z => q ((i_eq ix iy).mpr z)))
      · exact lv_if_ne hx hb hd ht2 (fun q => kt tgt (fun z => q ((i_eq ix iy).mpr z)) ht2) (fun q => kf (fun z => z ((i_eq ix iy).mp q)))
      · exact lv_if_lt hx hb hd ht2 (fun q => kt tgt ((i_lt ix iy).mp q) ht2) (fun q => kf (fun z => q ((i_lt ix iy).mpr z)))
      · exact lv_if_ge hx hb hd ht2 (fun q => kt tgt ((i_le iy ix).mp q) ht2) (fun q => kf (fun z => q ((i_le iy ix).mpr z)))
      · exact lv_if_gt hx hb hd ht2 (fun q => kt tgt ((i_lt iy ix).mp q) ht2) (fun q => kf (fun z => q ((i_lt iy ix).mpr z)))
      · exact lv_if_le hx hb hd ht2 (fun q => kt tgt ((i_le ix iy).mp q) ht2) (fun q => kf (fun z => q ((i_le ix iy).mpr z)))
    · exact s_br_f1 hx hb hd ix hc (kf hc)
theorem s_tableswitch {d lo hi2 : Int} {offs : Array Int} (hx : p.tables.exec = Jvm.exec) (hb : c.code = r.2.1) (hg : Gw p l e R s m args below meth c Qw fo E D A n0 ad0 nL K) (hd : decode r.2.1 pc = .ok (.tableswitch d lo hi2 offs, len)) (hw : stepF K C r pc len (.tableswitch d lo hi2 offs) ls st h cs sl Q) (hi : Inv fo E D A n0 ad0 s nL ls st h la H locs ad) : W p l e R s m args below meth c H locs cs sl Qw (F0 m pc la (st.map (cv ad fo))) := by
  obtain ⟨x, st, rfl, hw, hw2⟩ := pI_inv hw
  have ix : inI x := hi.2.2.1.hd
  by_cases hr : x < lo ∨ hi2 < x
  · obtain ⟨h0, hw⟩ := hw hr
    refine lv_tableOut (x := Int32.ofInt x) (tgt := ((pc : Int) + d).toNat) hx hb hd (by rw [inI_of ix]; exact hr) (by omega) ?_
    exact hg _ _ _ _ _ _ _ _ _ _ hw (hi.st hi.2.2.1.tl)
  · obtain ⟨off, ho, h0, hw⟩ := hw2 hr
    refine lv_tableIn (x := Int32.ofInt x) (off := off) (tgt := ((pc : Int) + off).toNat) hx hb hd (by rw [inI_of ix]; omega) (by rw [inI_of ix]; omega) (by rw [inI_of ix]; exact ho) (by omega) ?_
    exact hg _ _ _ _ _ _ _ _ _ _ hw (hi.st hi.2.2.1.tl)
theorem s_lookupswitch {d : Int} {ps : Array (Int × Int)} (hx : p.tables.exec = Jvm.exec) (hb : c.code = r.2.1) (hg : Gw p l e R s m args below meth c Qw fo E D A n0 ad0 nL K) (hd : decode r.2.1 pc = .ok (.lookupswitch d ps, len)) (hw : stepF K C r pc len (.lookupswitch d ps) ls st h cs sl Q) (hi : Inv fo E D A n0 ad0 s nL ls st h la H locs ad) : W p l e R s m args below meth c H locs cs sl Qw (F0 m pc la (st.map (cv ad fo))) := by
  obtain ⟨hp, hw⟩ := hw
  obtain ⟨x, st, rfl, h0, hw⟩ := pI_inv hw
  have ix : inI x := hi.2.2.1.hd
  refine lv_lookup (x := Int32.ofInt x) (tgt := ((pc : Int) + Op.lookupswitch.offset ps.toList d x).toNat) hx hb hd hp rfl (by rw [inI_of ix]; omega) ?_
  exact hg _ _ _ _ _ _ _ _ _ _ hw (hi.st hi.2.2.1.tl)
end SNDA
