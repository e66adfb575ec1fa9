/-! the whole: what the interpreter says, the machine does -/
theorem ini_none : (nKM.all fun q => decide (q.2.2.2.2.2.2.2.2.2.2.2 = 2 → q.2.2.2.2.1 = none)) = true := by decide +kernel
theorem lookup_mem {β : Type} {l : List (Nat × β)} {i : Nat} {v : β} (h : l.lookup i = some v) : (i, v) ∈ l := by
  induction l with
  | nil => cases h
  | cons x l ih =>
    obtain ⟨x1, x2⟩ := x
    rw [List.lookup_cons] at h
    by_cases he : i = x1
    · subst he
      simp only [beq_self_eq_true] at h
      cases h
      exact List.mem_cons_self
    · have he2 : (i == x1) = false := by simpa using he
      simp only [he2] at h
      exact List.mem_cons_of_mem _ (ih h)
theorem fetch_ok {j pc len : Nat} {ins : Instr} {r : MR} (h1 : mrec j = some r) (h2 : fetch j pc = some (ins, len)) : decode r.2.1 pc = .ok (ins, len) := by
  unfold mrec at h1
  unfold fetch at h2
  cases hq : nKM[j]? with
  | none => rw [hq] at h1; cases h1
  | some q =>
    rw [hq] at h1 h2
    cases h1
    have h3 := nKMok q (List.mem_of_getElem? hq)
    have h4 := List.all_eq_true.mp h3 _ (lookup_mem h2)
    simpa using h4
theorem mrec_mem {j : Nat} {r : MR} (h : mrec j = some r) : ∃ q ∈ nKM, q.2 = r := by
  unfold mrec at h
  cases hq : nKM[j]? with
  | none => rw [hq] at h; cases h
  | some q => rw [hq] at h; exact ⟨q, List.mem_of_getElem? hq, Option.some.inj h⟩
theorem mok_of {j : Nat} {r : MR} (h : mrec j = some r) (h1 : r.1.name ≠ "law") (h2 : r.1.name ≠ "abs") : MOk r := by
  obtain ⟨q, hq, rfl⟩ := mrec_mem h
  exact mol q hq (fun e => h1 (by rw [e]; rfl)) (fun e => h2 (by rw [e]; rfl))
theorem ini_ret {j : Nat} {r : MR} (h : mrec j = some r) (hf : r.2.2.2.2.2.2.2.2.2.2 = 2) : r.2.2.2.1 = none := by
  obtain ⟨q, hq, rfl⟩ := mrec_mem h
  have h3 := List.all_eq_true.mp ini_none q hq
  simp only [decide_eq_true_eq] at h3
  exact h3 hf
theorem lk_spec {cn i j : Nat} {own : String} {r : MR} (h : lk2 nLk cn i = some j) (ho : nCn[cn]? = some own) (hm : mrec j = some r) : Cond.methodLink own i r.1 ∈ nW0 ∧ (lk2 nAb cn i = none → MOk r) := by
  have h3 := lk2_all (t := nLk) (P := fun cn e => chkLk cn e.1 e.2) (by decide) lk_all h
  simp only [chkLk, ho, hm] at h3
  split at h3
  · rename_i own2 r2 ps e1 e2 e3
    cases e1
    cases e2
    simp only [Bool.and_eq_true, Bool.or_eq_true, decide_eq_true_eq] at h3
    refine ⟨wAt_in h3.1, fun hn => ?_⟩
    rcases h3.2 with q | q
    · exact mok_of hm q.1 q.2
    · rw [hn] at q; cases q
  · cases h3
theorem ns_spec {cn i j : Nat} {own : String} {r : MR} (h : lk2 nNs cn i = some j) (ho : nCn[cn]? = some own) (hm : mrec j = some r) : Cond.methodLinkNest own i r.1 "NumberedText" ∈ nNst ∧ MOk r := by
  have h3 := lk2_all (t := nNs) (P := fun cn e => chkNs cn e.1 e.2) (by decide) ns_all h
  simp only [chkNs, ho, hm] at h3
  split at h3
  · rename_i own2 r2 ps e1 e2 e3
    cases e1
    cases e2
    simp only [Bool.and_eq_true, decide_eq_true_eq] at h3
    refine ⟨List.mem_filter.mpr ⟨List.mem_of_getElem? h3.1, rfl⟩, mok_of hm (by rw [h3.2]; decide) (by rw [h3.2]; decide)⟩
  · cases h3
theorem ab_only : ((List.range 20).all fun cn => ((nAb[cn]?).getD []).all fun e => decide (lk2 nLk cn e.1 = some 81)) = true := by decide +kernel
theorem flag81 : ∀ r, mrec 81 = some r → r.2.2.2.2.2.2.2.2.2.2 = 0 := by
  intro r h
  have h2 : mrec 81 = some nM81 := by rfl
  rw [h2] at h
  cases h
  rfl
theorem snd_all (l : Launch) : ∀ n, Snd l n := by
  intro n
  induction n with
  | zero => intro j r pc ls st h cs sl Q p e R s m args below meth c Qw fo E D A n0 ad0 la H locs ad _ hw; exact hw.elim
  | succ n ih =>
    intro j r pc ls st h cs sl Q p e R s m args below meth c Qw fo E D A n0 ad0 la H locs ad hm hw hF hi hret
    rw [wp_succ, hm] at hw
    cases hf : fetch j pc with
    | none => rw [hf] at hw; exact hw.elim
    | some x =>
      obtain ⟨ins, len⟩ := x
      rw [hf] at hw
      dsimp only at hw
      have hd := fetch_ok hm hf
      have hg : Gw p l e R s m args below meth c Qw fo E D A n0 ad0 r.2.2.1 (fun pc ls st h cs sl => wp n j pc ls st h cs sl Q) := fun pc ls st h cs sl la H locs ad hk hinv => ih j r pc ls st h cs sl Q p e R s m args below meth c Qw fo E D A n0 ad0 la H locs ad hm hk hF hinv hret
      obtain ⟨hx, hb, hml, hown, hts, hcn, hin, hR1, hR2, hR3, hR4⟩ := id hF
      have hnw := hi.2.2.2
      cases ins with
      | iconst n => exact s_iconst hx hb hg hd hw hi
      | lconst n => exact s_lconst hx hb hg hd hw hi
      | bipush n => exact s_bipush hx hb hg hd hw hi
      | sipush n => exact s_sipush hx hb hg hd hw hi
      | iload i => exact s_iload hx hb hg hd hw hi
      | iload_n i => exact s_iload_n hx hb hg hd hw hi
      | lload i => exact s_lload hx hb hg hd hw hi
      | lload_n i => exact s_lload_n hx hb hg hd hw hi
      | aload i => exact s_aload hx hb hg hd hw hi
      | aload_n i => exact s_aload_n hx hb hg hd hw hi
      | istore i => exact s_istore hx hb hg hd hw hi
      | istore_n i => exact s_istore_n hx hb hg hd hw hi
      | lstore i => exact s_lstore hx hb hg hd hw hi
      | lstore_n i => exact s_lstore_n hx hb hg hd hw hi
      | astore i => exact s_astore hx hb hg hd hw hi
      | astore_n i => exact s_astore_n hx hb hg hd hw hi
      | iinc i n => exact s_iinc hx hb hg hd hw hi
      | iadd => exact s_iadd hx hb hg hd hw hi
      | isub => exact s_isub hx hb hg hd hw hi
      | imul => exact s_imul hx hb hg hd hw hi
      | iand => exact s_iand hx hb hg hd hw hi
      | ior => exact s_ior hx hb hg hd hw hi
      | ishl => exact s_ishl hx hb hg hd hw hi
      | ishr => exact s_ishr hx hb hg hd hw hi
      | idiv => exact s_idiv hx hb hg hd hw hi
      | irem => exact s_irem hx hb hg hd hw hi
      | ineg => exact s_ineg hx hb hg hd hw hi
      | ladd => exact s_ladd hx hb hg hd hw hi
      | lsub => exact s_lsub hx hb hg hd hw hi
      | lmul => exact s_lmul hx hb hg hd hw hi
      | land => exact s_land hx hb hg hd hw hi
      | lor => exact s_lor hx hb hg hd hw hi
      | lxor => exact s_lxor hx hb hg hd hw hi
      | lshl => exact s_lshl hx hb hg hd hw hi
      | lshr => exact s_lshr hx hb hg hd hw hi
      | lushr => exact s_lushr hx hb hg hd hw hi
      | lcmp => exact s_lcmp hx hb hg hd hw hi
      | i2l => exact s_i2l hx hb hg hd hw hi
      | l2i => exact s_l2i hx hb hg hd hw hi
      | i2c => exact s_i2c hx hb hg hd hw hi
      | dup => exact s_dup hx hb hg hd hw hi
      | pop => exact s_pop hx hb hg hd hw hi
      | dup2 => exact s_dup2 hx hb hg hd hw hi
      | goto off => exact s_goto hx hb hg hd hw hi
      | ifCond cc off => exact s_ifCond hx hb hg hd hw hi
      | if_icmp cc off => exact s_if_icmp hx hb hg hd hw hi
      | tableswitch d lo hi2 offs => exact s_tableswitch hx hb hg hd hw hi
      | lookupswitch d ps => exact s_lookupswitch hx hb hg hd hw hi
      | arraylength => exact s_arraylength hx hb hg hd hw hi
      | iaload => exact s_iaload hx hb hg hd hw hi
      | baload => exact s_baload hx hb hg hd hw hi
      | laload => exact s_laload hx hb hg hd hw hi
      | aaload => exact s_aaload hx hb hg hd hw hi
      | iastore => exact s_iastore hx hb hg hd hw hi
      | bastore => exact s_bastore hx hb hg hd hw hi
      | lastore => exact s_lastore hx hb hg hd hw hi
      | aastore => exact s_aastore hx hb hg hd hw hi
      | ldc i => exact s_ldc hx hb hg hown hcn hd hw hi
      | ldc2_w i => exact s_ldc2 hx hb hg hown hts hcn hd hw hi
      | getstatic i => exact s_getstatic hx hb hg hown hts hcn hd hw hi
      | getfield i => exact s_getfield hx hb hg hown hts hcn hd hw hi
      | putfield i => exact s_putfield hx hb hg hown hts hcn hin hd hw hi
      | new i => exact s_new hx hb hR1 hR2 hg hown hts hcn hd hw hi
      | newarray t => exact s_newarray hx hb hR1 hR2 hg hts hd hw hi
      | anewarray i => exact s_anewarray hx hb hR1 hR2 hg hown hts hcn hd hw hi
      | multianewarray i d => exact s_multi hx hb hR1 hR2 hg hown hts hcn hd hw hi
      | ireturn =>
        obtain ⟨rfl, g1, g2, hw⟩ := hw
        obtain ⟨x, st1, rfl, rfl, ⟨t, g3, g4⟩, hq⟩ := pI_inv hw
        exact hret pc la H locs cs sl ad (some (.inl x)) h _ hd (Or.inl ⟨x, t, rfl, rfl, g3, g4⟩) g1 g2 hq (fun y hy => by cases hy; exact hi.2.2.1.hd) hnw.1 hnw.2.1 hnw.2.2
      | lreturn =>
        obtain ⟨rfl, g1, g2, hw⟩ := hw
        obtain ⟨x, st1, rfl, rfl, g3, hq⟩ := pL_inv hw
        exact hret pc la H locs cs sl ad (some (.inr (.inl x))) h _ hd (Or.inr (Or.inl ⟨x, rfl, rfl, g3⟩)) g1 g2 hq (fun y hy => by cases hy; exact hi.2.2.1.hd) hnw.1 hnw.2.1 hnw.2.2
      | areturn =>
        obtain ⟨rfl, g1, g2, hw⟩ := hw
        obtain ⟨x, st1, rfl, rfl, ⟨c9, g3⟩, hq⟩ := pA_inv hw
        exact hret pc la H locs cs sl ad (some (.inr (.inr (some x)))) h _ hd (Or.inr (Or.inr (Or.inl ⟨x, c9, rfl, rfl, g3⟩))) g1 g2 hq (fun y hy => by cases hy; exact hi.2.2.1.hd) hnw.1 hnw.2.1 hnw.2.2
      | return_ =>
        obtain ⟨rfl, g1, g2, rfl, g3, hq⟩ := hw
        exact hret pc la H locs cs sl ad none h _ hd (Or.inr (Or.inr (Or.inr ⟨rfl, rfl, g3⟩))) g1 g2 hq (fun y hy => by cases hy) hnw.1 hnw.2.1 hnw.2.2
      | invokestatic i =>
        obtain ⟨rfl, hw⟩ := hw
        cases h1 : lk2 nAb r.2.2.2.2.1 i with
        | some u =>
          rw [h1] at hw
          exact s_abs hx hb hml hR1 hR2 hR3 hR4 hg hown hts hcn hd h1 hw hi
        | none =>
          rw [h1] at hw
          cases h2 : lk2 nLk r.2.2.2.2.1 i with
          | some j2 =>
            simp only [h2] at hw
            obtain ⟨r2, w1, w2, w3⟩ := hw
            obtain ⟨k1, k2⟩ := lk_spec h2 hcn w1
            exact s_callS ih hF hg w1 (k2 h1) w2 k1 hd w3 hi
          | none =>
            simp only [h2] at hw
            cases h3 : lk2 nCp r.2.2.2.2.1 i with
            | none => rw [h3] at hw; exact hw.elim
            | some u =>
              rw [h3] at hw
              exact s_copy hx hb hml hR3 hR4 hg hown hts hcn hd h3 hw hi
      | invokevirtual i =>
        obtain ⟨rfl, hw⟩ := hw
        cases h2 : lk2 nLk r.2.2.2.2.1 i with
        | none => rw [h2] at hw; exact hw.elim
        | some j2 =>
          simp only [h2] at hw
          obtain ⟨r2, a, nn, w1, w2, w3, w4, w5⟩ := hw
          obtain ⟨k1, k2⟩ := lk_spec h2 hcn w1
          cases h1 : lk2 nAb r.2.2.2.2.1 i with
          | none => exact s_callV ih hF hg w1 (k2 h1) w2 k1 hd w3 w4 w5 hi
          | some u =>
            have h5 := lk2_all (t := nAb) (P := fun cn e => decide (lk2 nLk cn e.1 = some 81)) (by decide) ab_only h1
            simp only [decide_eq_true_eq] at h5
            rw [h2] at h5
            cases h5
            rw [flag81 r2 w1] at w2
            cases w2
      | invokespecial i =>
        obtain ⟨rfl, hw⟩ := hw
        cases h1 : lk2 nOi r.2.2.2.2.1 i with
        | some u =>
          rw [h1] at hw
          exact s_objinit hx hb hml hR3 hR4 hg hown hts hcn hd h1 hw hi
        | none =>
          rw [h1] at hw
          simp only at hw
          cases h2 : lk2 nLk r.2.2.2.2.1 i with
          | some j2 =>
            simp only [h2, Option.some_or] at hw
            obtain ⟨r2, a, w1, w2, w3, w4, w5⟩ := hw
            obtain ⟨k1, k2⟩ := lk_spec h2 hcn w1
            cases h3 : lk2 nAb r.2.2.2.2.1 i with
            | none => exact s_callI ih hF hg w1 (k2 h3) w2 (Or.inl k1) hd w3 w4 w5 (ini_ret w1 w2) hi
            | some u =>
              have h5 := lk2_all (t := nAb) (P := fun cn e => decide (lk2 nLk cn e.1 = some 81)) (by decide) ab_only h3
              simp only [decide_eq_true_eq] at h5
              rw [h2] at h5
              cases h5
              rw [flag81 r2 w1] at w2
              cases w2
          | none =>
            simp only [h2, Option.none_or] at hw
            cases h3 : lk2 nNs r.2.2.2.2.1 i with
            | none => simp only [h3] at hw
            | some j2 =>
              simp only [h3] at hw
              obtain ⟨r2, a, w1, w2, w3, w4, w5⟩ := hw
              obtain ⟨k1, k2⟩ := ns_spec h3 hcn w1
              exact s_callI ih hF hg w1 k2 w2 (Or.inr k1) hd w3 w4 w5 (ini_ret w1 w2) hi
      | _ => exact hw.elim
