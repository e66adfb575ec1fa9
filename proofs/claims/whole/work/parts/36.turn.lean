/-! pages turned: reference -/
theorem ind0_le (z : Int) : ind0 z ≤ 1 := by unfold ind0; split <;> omega
theorem ind0_1 {z : Int} (h : z ≠ 0) : ind0 z = 1 := if_neg h
theorem ind0_0 {z : Int} (h : z = 0) : ind0 z = 0 := if_pos h
theorem tn_less {x : Tx} {H : Int} {T N : Nat} {q : PS} {d : Nat} (hH : 8 ≤ H ∧ H ≤ 60) (h : PSok x T N q) (hu : q.2.1 q.1 ≠ 0) (hd : (q.2.2.2.2.2.1 - q.2.2.2.2.1) + ind0 (q.2.1 q.1) + 1 ≤ d) : ((tn x H q).2.2.2.2.2.1 - (tn x H q).2.2.2.2.1) + ind0 ((tn x H q).2.1 (tn x H q).1) + 1 ≤ d - 1 := by
  obtain ⟨a1, a2, a3, a4, a5, a6⟩ := tn_ok hH h.1 hu
  have i1 := ind0_le ((tn x H q).2.1 (tn x H q).1)
  rw [ind0_1 hu] at hd
  have h5 := h.1.2.2.2.2.1
  rcases Nat.eq_or_lt_of_le h5 with e | e
  · obtain ⟨b1, b2⟩ := a6 e
    rw [ind0_0 b1]
    omega
  · have b1 := a5 e
    omega
theorem rmN_ok {x : Tx} {H n : Int} {T N : Nat} (hH : 8 ≤ H ∧ H ≤ 60) : ∀ (d : Nat) (q : PS), PSok x T N q → (q.2.2.2.2.2.1 - q.2.2.2.2.1) + ind0 (q.2.1 q.1) + 1 ≤ d → PSok x T N (rmN x H n d q) ∧ ((rmN x H n d q).2.1 (rmN x H n d q).1 = 0 ∨ (rmN x H n d q).2.1 (rmN x H n d q).1 + n ≤ H) ∧ (rmN x H n d q).2.2.2.2.2.1 = q.2.2.2.2.2.1 := by
  intro d
  induction d with
  | zero => intro q h hd; omega
  | succ d ih =>
    intro q h hd
    by_cases c : q.2.1 q.1 = 0 ∨ q.2.1 q.1 + n ≤ H
    · rw [rmN_no c]
      exact ⟨h, c, rfl⟩
    · rw [rmN_go (by omega) c]
      have hu : q.2.1 q.1 ≠ 0 := fun e => c (Or.inl e)
      obtain ⟨a1, a2, a3, -, -, -⟩ := tn_ok hH h.1 hu
      have b := ih (tn x H q) a1 (tn_less hH h hu hd)
      exact ⟨b.1, b.2.1, b.2.2.trans a3⟩
theorem rm_ok {x : Tx} {H n : Int} {T N : Nat} {q : PS} (hH : 8 ≤ H ∧ H ≤ 60) (hN : N ≤ 59) (h : PSok x T N q) : PSok x T N (rm x H n q) ∧ ((rm x H n q).2.1 (rm x H n q).1 = 0 ∨ (rm x H n q).2.1 (rm x H n q).1 + n ≤ H) ∧ (rm x H n q).2.2.2.2.2.1 = q.2.2.2.2.2.1 := by
  have i1 := ind0_le (q.2.1 q.1)
  have h6 := h.1.2.2.2.2.2.1
  exact rmN_ok hH 61 q h (by omega)
theorem rmN_fuel {x : Tx} {H n : Int} {T N : Nat} (hH : 8 ≤ H ∧ H ≤ 60) : ∀ (d d2 : Nat) (q : PS), PSok x T N q → (q.2.2.2.2.2.1 - q.2.2.2.2.1) + ind0 (q.2.1 q.1) + 1 ≤ d → d ≤ d2 → rmN x H n d2 q = rmN x H n d q := by
  intro d
  induction d with
  | zero => intro d2 q h hd; omega
  | succ d ih =>
    intro d2 q h hd hd2
    by_cases c : q.2.1 q.1 = 0 ∨ q.2.1 q.1 + n ≤ H
    · rw [rmN_no c, rmN_no c]
    · have hu : q.2.1 q.1 ≠ 0 := fun e => c (Or.inl e)
      rw [rmN_go (by omega) c, rmN_go (d := d + 1) (by omega) c]
      exact ih (d2 - 1) (tn x H q) (tn_ok hH h.1 hu).1 (tn_less hH h hu hd) (by omega)
theorem enN_ok {x : Tx} {H : Int} {T N : Nat} (hH : 8 ≤ H ∧ H ≤ 60) : ∀ (d : Nat) (q : PS), PSok x T N q → q.2.2.2.2.2.1 - q.2.2.2.2.1 ≤ d → PSok x T N (enN x H d q) ∧ ¬ (enN x H d q).2.2.2.2.1 < (enN x H d q).2.2.2.2.2.1 := by
  intro d
  induction d with
  | zero => intro q h hd; exact ⟨h, by show ¬ q.2.2.2.2.1 < q.2.2.2.2.2.1; omega⟩
  | succ d ih =>
    intro q h hd
    by_cases c : q.2.2.2.2.1 < q.2.2.2.2.2.1
    · rw [enN_go (by omega) c]
      obtain ⟨a1, a2, a3, a4, a5, a6⟩ := tn_ok hH h.1 (h.2 c)
      exact ih _ a1 (by have := a5 c; omega)
    · rw [enN_no c]
      exact ⟨h, c⟩
theorem enN_fuel {x : Tx} {H : Int} {T N : Nat} (hH : 8 ≤ H ∧ H ≤ 60) : ∀ (d d2 : Nat) (q : PS), PSok x T N q → q.2.2.2.2.2.1 - q.2.2.2.2.1 ≤ d → d ≤ d2 → enN x H d2 q = enN x H d q := by
  intro d
  induction d with
  | zero => intro d2 q h hd hd2; rw [enN_no (by omega), enN_no (by omega)]
  | succ d ih =>
    intro d2 q h hd hd2
    by_cases c : q.2.2.2.2.1 < q.2.2.2.2.2.1
    · rw [enN_go (by omega) c, enN_go (d := d + 1) (by omega) c]
      obtain ⟨a1, a2, a3, a4, a5, a6⟩ := tn_ok hH h.1 (h.2 c)
      exact ih (d2 - 1) _ a1 (by have := a5 c; omega) (by omega)
    · rw [enN_no c, enN_no c]
theorem tk_ok {x : Tx} {T N : Nat} {q : PS} {n : Int} (hn : 0 < n) (h3 : q.2.1 q.1 + n ≤ 300) (h : PSok x T N q) : PSok x (T + 1) N (tk q n) := by
  obtain ⟨⟨h1, h2, -, h4, h5, h6, h7, h8, h9, h10⟩, h11⟩ := h
  have e : (tk q n).2.1 (tk q n).1 = q.2.1 q.1 + n := upf_eq
  have i1 := ind0_le (q.2.1 q.1 + n)
  refine ⟨?_, fun _ => by rw [e]; omega⟩
  unfold PSw
  rw [e]
  refine ⟨h1, by omega, h3, ?_, h5, h6, h7, h8, h9, h10⟩
  show q.1 + ind0 (q.2.1 q.1 + n) + (q.2.2.2.2.2.1 - q.2.2.2.2.1) ≤ 1 + (T + 1)
  omega
theorem sf_ok {x : Tx} {T N : Nat} {q : PS} {i : Nat} (h : PSok x T N q) : PSok x T N (sf q i) := by
  obtain ⟨⟨h1, h2, h3, h4, h5, h6, h7, h8, h9, h10⟩, h11⟩ := h
  refine ⟨⟨h1, h2, h3, h4, h5, h6, h7, fun k => ?_, fun k hk => ?_, h10⟩, h11⟩
  · have := h8 k
    show 0 ≤ upf q.2.2.1 i (q.1 : Int) k ∧ upf q.2.2.1 i (q.1 : Int) k ≤ q.1 ∧ 0 ≤ q.2.2.2.1 k ∧ q.2.2.2.1 k ≤ q.1
    unfold upf
    split <;> omega
  · show (upf q.2.2.1 i (q.1 : Int) k ≠ 0 ∧ q.2.2.2.1 k ≠ 0) ∨ ∃ k2, q.2.2.2.2.1 ≤ k2 ∧ k2 < q.2.2.2.2.2.1 ∧ q.2.2.2.2.2.2 k2 = k
    rcases h9 k hk with e | e
    · left
      refine ⟨?_, e.2⟩
      unfold upf
      split
      · omega
      · exact e.1
    · right; exact e
theorem se_ok {x : Tx} {T N : Nat} {q : PS} (h : PSok x T N q) (hf : q.2.2.1 N ≠ 0) : PSok x T (N + 1) (se q N) := by
  obtain ⟨⟨h1, h2, h3, h4, h5, h6, h7, h8, h9, h10⟩, h11⟩ := h
  refine ⟨⟨h1, h2, h3, h4, h5, by show q.2.2.2.2.2.1 ≤ N + 1; omega, fun k hk => ?_, fun k => ?_, fun k hk => ?_, fun k hk => ?_⟩, h11⟩
  · have := h7 k hk
    show q.2.2.2.2.2.2 k < N + 1 ∧ _
    exact ⟨by omega, this.2⟩
  · have := h8 k
    show 0 ≤ q.2.2.1 k ∧ q.2.2.1 k ≤ q.1 ∧ 0 ≤ upf q.2.2.2.1 N (q.1 : Int) k ∧ upf q.2.2.2.1 N (q.1 : Int) k ≤ q.1
    unfold upf
    split <;> omega
  · show (q.2.2.1 k ≠ 0 ∧ upf q.2.2.2.1 N (q.1 : Int) k ≠ 0) ∨ ∃ k2, q.2.2.2.2.1 ≤ k2 ∧ k2 < q.2.2.2.2.2.1 ∧ q.2.2.2.2.2.2 k2 = k
    by_cases e : k = N
    · left
      rw [e, upf_eq]
      exact ⟨hf, by omega⟩
    · rw [upf_ne e]
      exact h9 k (by omega)
  · exact (upf_ne (by omega)).trans (h10 k (by omega))
theorem wa_ok {x : Tx} {T N : Nat} {q : PS} (h : PSok x T N q) (hu : q.2.1 q.1 ≠ 0) (ha : 1 ≤ x.2.1 2 N ∧ x.2.1 2 N ≤ 8) : PSok x (T + 1) (N + 1) (wa q N) := by
  obtain ⟨⟨h1, h2, h3, h4, h5, h6, h7, h8, h9, h10⟩, h11⟩ := h
  refine ⟨⟨h1, h2, h3, ?_, by show q.2.2.2.2.1 ≤ q.2.2.2.2.2.1 + 1; omega, by show q.2.2.2.2.2.1 + 1 ≤ N + 1; omega, fun k hk => ?_, h8, fun k hk => ?_, fun k hk => h10 k (by omega)⟩, fun _ => hu⟩
  · show q.1 + ind0 (q.2.1 q.1) + (q.2.2.2.2.2.1 + 1 - q.2.2.2.2.1) ≤ 1 + (T + 1)
    omega
  · have hk2 : k < q.2.2.2.2.2.1 + 1 := hk
    show upf q.2.2.2.2.2.2 q.2.2.2.2.2.1 N k < N + 1 ∧ 1 ≤ x.2.1 2 (upf q.2.2.2.2.2.2 q.2.2.2.2.2.1 N k) ∧ x.2.1 2 (upf q.2.2.2.2.2.2 q.2.2.2.2.2.1 N k) ≤ 8
    by_cases e : k = q.2.2.2.2.2.1
    · rw [e, upf_eq]
      exact ⟨by omega, ha⟩
    · rw [upf_ne e]
      have := h7 k (by omega)
      exact ⟨by omega, this.2⟩
  · show (q.2.2.1 k ≠ 0 ∧ q.2.2.2.1 k ≠ 0) ∨ ∃ k2, q.2.2.2.2.1 ≤ k2 ∧ k2 < q.2.2.2.2.2.1 + 1 ∧ upf q.2.2.2.2.2.2 q.2.2.2.2.2.1 N k2 = k
    by_cases e : k = N
    · right
      exact ⟨q.2.2.2.2.2.1, h5, by omega, by rw [upf_eq, e]⟩
    · rcases h9 k (by omega) with e2 | ⟨k2, e3, e4, e5⟩
      · left; exact e2
      · right
        exact ⟨k2, e3, by omega, by rw [upf_ne (by omega)]; exact e5⟩
theorem PSok.more {x : Tx} {T T2 N : Nat} {q : PS} (h : PSok x T N q) (hT : T ≤ T2) : PSok x T2 N q := by
  obtain ⟨⟨h1, h2, h3, h4, h5⟩, h11⟩ := h
  exact ⟨⟨h1, h2, h3, by omega, h5⟩, h11⟩
theorem PSok.rng {x : Tx} {T N : Nat} {q : PS} (h : PSok x T N q) (hT : T ≤ 1200) : 1 ≤ q.1 ∧ q.1 ≤ 1250 ∧ 0 ≤ q.2.1 q.1 ∧ q.2.1 q.1 ≤ 300 := by
  obtain ⟨⟨h1, h2, h3, h4, h5⟩, h11⟩ := h
  exact ⟨h1, by omega, h2, h3⟩
set_option maxRecDepth 8000 in
theorem m_newPage {L : Nat} {h : Hp} {c : Nat} {x : Tx} (g : GG L h) (hc : h.2.1 1085 12 = (c : Int)) (hc3 : c ≤ 3) (hR : RepM h c x) {T N : Nat} {H : Int} {q : PS} (hH : 8 ≤ H ∧ H ≤ 60) (hq : PgM h H q) (ok : PSw x T N q) (hT : T ≤ 1200) (hN : N ≤ 60) (hN2 : N ≤ x.1) (hu : q.2.1 q.1 ≠ 0) : RN 189 0 [some (.inr (.inr (some 1085))), none] [] h 0 0 (fun v h2 => Sm regW h h2 ∧ PgM h2 H (tn x H q) ∧ v = none) := by
  have hm : mrec 189 = some nM189 := rfl
  have g1 := g
  obtain ⟨v5, v6, v7, v8, vus, vfp, vlp, vwr⟩ := id hq
  obtain ⟨o1, o2, o3, o4, o5, o6, o7, o8, o9, o10⟩ := id ok
  refine r_aload_n hm rfl (k := ?_)
  refine r_dup hm rfl (k := ?_)
  refine r_getI (hm := hm) (hf := rfl) (hd := rfl) (hs := (by first | assumption | exact (g1.1 _).trans rfl)) (hv := (by first | exact putI_eq | exact (putI_ne (by omega)).trans (by first | exact putI_eq | exact (putI_ne (by omega)).trans (by first | exact putI_eq | exact (putI_ne (by omega)).trans (by first | exact putI_eq | exact (putI_ne (by omega)).trans (by first | exact putI_eq | exact (putI_ne (by omega)).trans (by first | exact putI_eq | exact (putI_ne (by omega)).trans (by first | exact putI_eq | exact (putI_ne (by omega)).trans (by first | first | assumption | exact g1.2 _ _ _ rfl | exact vus _ (by omega) (by omega) | exact vwr _ (by omega)) | first | assumption | exact g1.2 _ _ _ rfl | exact vus _ (by omega) (by omega) | exact vwr _ (by omega)) | first | assumption | exact g1.2 _ _ _ rfl | exact vus _ (by omega) (by omega) | exact vwr _ (by omega)) | first | assumption | exact g1.2 _ _ _ rfl | exact vus _ (by omega) (by omega) | exact vwr _ (by omega)) | first | assumption | exact g1.2 _ _ _ rfl | exact vus _ (by omega) (by omega) | exact vwr _ (by omega)) | first | assumption | exact g1.2 _ _ _ rfl | exact vus _ (by omega) (by omega) | exact vwr _ (by omega)) | first | assumption | exact g1.2 _ _ _ rfl | exact vus _ (by omega) (by omega) | exact vwr _ (by omega)) | first | assumption | exact g1.2 _ _ _ rfl | exact vus _ (by omega) (by omega) | exact vwr _ (by omega))) (k := ?_)
  refine r_iconst hm rfl (k := ?_)
  refine r_iadd hm rfl (hr := (by omega)) (k := ?_)
  refine r_putI (hm := hm) (hf := rfl) (hd := rfl) (hs := (by first | assumption | exact (g1.1 _).trans rfl)) (hfin := Or.inl rfl) (hz := fun q9 => absurd q9 (by decide)) (k := ?_)
  refine r_aload_n hm rfl (k := ?_)
  refine r_getR (hm := hm) (hf := rfl) (hd := rfl) (hs := (by first | assumption | exact (g1.1 _).trans rfl)) (hv := (by first | exact putI_eq | exact (putI_ne (by omega)).trans (by first | exact putI_eq | exact (putI_ne (by omega)).trans (by first | exact putI_eq | exact (putI_ne (by omega)).trans (by first | exact putI_eq | exact (putI_ne (by omega)).trans (by first | exact putI_eq | exact (putI_ne (by omega)).trans (by first | exact putI_eq | exact (putI_ne (by omega)).trans (by first | exact putI_eq | exact (putI_ne (by omega)).trans (by first | first | assumption | exact g1.2 _ _ _ rfl | exact vus _ (by omega) (by omega) | exact vwr _ (by omega)) | first | assumption | exact g1.2 _ _ _ rfl | exact vus _ (by omega) (by omega) | exact vwr _ (by omega)) | first | assumption | exact g1.2 _ _ _ rfl | exact vus _ (by omega) (by omega) | exact vwr _ (by omega)) | first | assumption | exact g1.2 _ _ _ rfl | exact vus _ (by omega) (by omega) | exact vwr _ (by omega)) | first | assumption | exact g1.2 _ _ _ rfl | exact vus _ (by omega) (by omega) | exact vwr _ (by omega)) | first | assumption | exact g1.2 _ _ _ rfl | exact vus _ (by omega) (by omega) | exact vwr _ (by omega)) | first | assumption | exact g1.2 _ _ _ rfl | exact vus _ (by omega) (by omega) | exact vwr _ (by omega)) | first | assumption | exact g1.2 _ _ _ rfl | exact vus _ (by omega) (by omega) | exact vwr _ (by omega))) (k := ?_)
  refine r_aload_n hm rfl (k := ?_)
  refine r_getI (hm := hm) (hf := rfl) (hd := rfl) (hs := (by first | assumption | exact (g1.1 _).trans rfl)) (hv := (by first | exact putI_eq | exact (putI_ne (by omega)).trans (by first | exact putI_eq | exact (putI_ne (by omega)).trans (by first | exact putI_eq | exact (putI_ne (by omega)).trans (by first | exact putI_eq | exact (putI_ne (by omega)).trans (by first | exact putI_eq | exact (putI_ne (by omega)).trans (by first | exact putI_eq | exact (putI_ne (by omega)).trans (by first | exact putI_eq | exact (putI_ne (by omega)).trans (by first | first | assumption | exact g1.2 _ _ _ rfl | exact vus _ (by omega) (by omega) | exact vwr _ (by omega)) | first | assumption | exact g1.2 _ _ _ rfl | exact vus _ (by omega) (by omega) | exact vwr _ (by omega)) | first | assumption | exact g1.2 _ _ _ rfl | exact vus _ (by omega) (by omega) | exact vwr _ (by omega)) | first | assumption | exact g1.2 _ _ _ rfl | exact vus _ (by omega) (by omega) | exact vwr _ (by omega)) | first | assumption | exact g1.2 _ _ _ rfl | exact vus _ (by omega) (by omega) | exact vwr _ (by omega)) | first | assumption | exact g1.2 _ _ _ rfl | exact vus _ (by omega) (by omega) | exact vwr _ (by omega)) | first | assumption | exact g1.2 _ _ _ rfl | exact vus _ (by omega) (by omega) | exact vwr _ (by omega)) | first | assumption | exact g1.2 _ _ _ rfl | exact vus _ (by omega) (by omega) | exact vwr _ (by omega))) (k := ?_)
  refine r_iconst hm rfl (k := ?_)
  refine r_iast (hm := hm) (hf := rfl) (h28 := (by omega)) (hs := (by first | assumption | exact (g1.1 _).trans rfl)) (kk := q.1 + 1) (hi := by omega) (hn := (by omega)) (k := ?_)
  suffices LP : ∀ (d : Nat) (q : PS) (h1 : Hp) (r : PS) (z1 : Option Vl), d = q.2.2.2.2.2.1 - q.2.2.2.2.1 → Sm regW h h1 → PgM h1 H q → PSw x T N q → plc x H d q = r → RN 189 20 [some (.inr (.inr (some 1085))), z1] [] h1 0 0 (fun v h2 => Sm regW h h2 ∧ PgM h2 H (r) ∧ v = none) from LP _ (np q) _ _ _ rfl (Sm.put (Sm.put Sm.refl (by unfold regW; omega)) (by unfold regW; omega)) (by
    unfold PgM
    simp (disch := omega) only [putI_fne, putI_feq, upf_ne, upf_eq]
    exact hq.np) (np_ok ok hu) rfl
  clear hq ok v5 v6 v7 v8 vus vfp vlp vwr o1 o2 o3 o4 o5 o6 o7 o8 o9 o10 g1 hu
  refine fun d => Nat.strongRecOn d (fun d ih => ?_)
  intro q h1 r z1 hd S1 hq ok hr
  have g1 := S1.gg g
  have hc1 := S1.wc hc
  have hR1 := S1.wM hR
  obtain ⟨v5, v6, v7, v8, vus, vfp, vlp, vwr⟩ := id hq
  obtain ⟨o1, o2, o3, o4, o5, o6, o7, o8, o9, o10⟩ := id ok
  refine r_aload_n hm rfl (k := ?_)
  refine r_getI (hm := hm) (hf := rfl) (hd := rfl) (hs := (by first | assumption | exact (g1.1 _).trans rfl)) (hv := (by first | exact putI_eq | exact (putI_ne (by omega)).trans (by first | exact putI_eq | exact (putI_ne (by omega)).trans (by first | exact putI_eq | exact (putI_ne (by omega)).trans (by first | exact putI_eq | exact (putI_ne (by omega)).trans (by first | exact putI_eq | exact (putI_ne (by omega)).trans (by first | exact putI_eq | exact (putI_ne (by omega)).trans (by first | exact putI_eq | exact (putI_ne (by omega)).trans (by first | first | assumption | exact g1.2 _ _ _ rfl | exact vus _ (by omega) (by omega) | exact vwr _ (by omega)) | first | assumption | exact g1.2 _ _ _ rfl | exact vus _ (by omega) (by omega) | exact vwr _ (by omega)) | first | assumption | exact g1.2 _ _ _ rfl | exact vus _ (by omega) (by omega) | exact vwr _ (by omega)) | first | assumption | exact g1.2 _ _ _ rfl | exact vus _ (by omega) (by omega) | exact vwr _ (by omega)) | first | assumption | exact g1.2 _ _ _ rfl | exact vus _ (by omega) (by omega) | exact vwr _ (by omega)) | first | assumption | exact g1.2 _ _ _ rfl | exact vus _ (by omega) (by omega) | exact vwr _ (by omega)) | first | assumption | exact g1.2 _ _ _ rfl | exact vus _ (by omega) (by omega) | exact vwr _ (by omega)) | first | assumption | exact g1.2 _ _ _ rfl | exact vus _ (by omega) (by omega) | exact vwr _ (by omega))) (k := ?_)
  refine r_aload_n hm rfl (k := ?_)
  refine r_getI (hm := hm) (hf := rfl) (hd := rfl) (hs := (by first | assumption | exact (g1.1 _).trans rfl)) (hv := (by first | exact putI_eq | exact (putI_ne (by omega)).trans (by first | exact putI_eq | exact (putI_ne (by omega)).trans (by first | exact putI_eq | exact (putI_ne (by omega)).trans (by first | exact putI_eq | exact (putI_ne (by omega)).trans (by first | exact putI_eq | exact (putI_ne (by omega)).trans (by first | exact putI_eq | exact (putI_ne (by omega)).trans (by first | exact putI_eq | exact (putI_ne (by omega)).trans (by first | first | assumption | exact g1.2 _ _ _ rfl | exact vus _ (by omega) (by omega) | exact vwr _ (by omega)) | first | assumption | exact g1.2 _ _ _ rfl | exact vus _ (by omega) (by omega) | exact vwr _ (by omega)) | first | assumption | exact g1.2 _ _ _ rfl | exact vus _ (by omega) (by omega) | exact vwr _ (by omega)) | first | assumption | exact g1.2 _ _ _ rfl | exact vus _ (by omega) (by omega) | exact vwr _ (by omega)) | first | assumption | exact g1.2 _ _ _ rfl | exact vus _ (by omega) (by omega) | exact vwr _ (by omega)) | first | assumption | exact g1.2 _ _ _ rfl | exact vus _ (by omega) (by omega) | exact vwr _ (by omega)) | first | assumption | exact g1.2 _ _ _ rfl | exact vus _ (by omega) (by omega) | exact vwr _ (by omega)) | first | assumption | exact g1.2 _ _ _ rfl | exact vus _ (by omega) (by omega) | exact vwr _ (by omega))) (k := ?_)
  refine r_icmp_ge (t := 121) hm rfl rfl (fun c28 => ?_) (fun c28 => ?_)
  · refine r_return hm rfl rfl (Nat.le_of_ble_eq_true rfl) (Nat.le_of_ble_eq_true rfl) ?_
    exact ⟨S1, by rw [← hr, plc_no (fun _ => by omega)]; exact hq, rfl⟩
  · have oa := o7 q.2.2.2.2.1 (by omega)
    refine r_aload_n hm rfl (k := ?_)
    refine r_getR (hm := hm) (hf := rfl) (hd := rfl) (hs := (by first | assumption | exact (g1.1 _).trans rfl)) (hv := (by first | exact putI_eq | exact (putI_ne (by omega)).trans (by first | exact putI_eq | exact (putI_ne (by omega)).trans (by first | exact putI_eq | exact (putI_ne (by omega)).trans (by first | exact putI_eq | exact (putI_ne (by omega)).trans (by first | exact putI_eq | exact (putI_ne (by omega)).trans (by first | exact putI_eq | exact (putI_ne (by omega)).trans (by first | exact putI_eq | exact (putI_ne (by omega)).trans (by first | first | assumption | exact g1.2 _ _ _ rfl | exact vus _ (by omega) (by omega) | exact vwr _ (by omega)) | first | assumption | exact g1.2 _ _ _ rfl | exact vus _ (by omega) (by omega) | exact vwr _ (by omega)) | first | assumption | exact g1.2 _ _ _ rfl | exact vus _ (by omega) (by omega) | exact vwr _ (by omega)) | first | assumption | exact g1.2 _ _ _ rfl | exact vus _ (by omega) (by omega) | exact vwr _ (by omega)) | first | assumption | exact g1.2 _ _ _ rfl | exact vus _ (by omega) (by omega) | exact vwr _ (by omega)) | first | assumption | exact g1.2 _ _ _ rfl | exact vus _ (by omega) (by omega) | exact vwr _ (by omega)) | first | assumption | exact g1.2 _ _ _ rfl | exact vus _ (by omega) (by omega) | exact vwr _ (by omega)) | first | assumption | exact g1.2 _ _ _ rfl | exact vus _ (by omega) (by omega) | exact vwr _ (by omega))) (k := ?_)
    refine r_aload_n hm rfl (k := ?_)
    refine r_getI (hm := hm) (hf := rfl) (hd := rfl) (hs := (by first | assumption | exact (g1.1 _).trans rfl)) (hv := (by first | exact putI_eq | exact (putI_ne (by omega)).trans (by first | exact putI_eq | exact (putI_ne (by omega)).trans (by first | exact putI_eq | exact (putI_ne (by omega)).trans (by first | exact putI_eq | exact (putI_ne (by omega)).trans (by first | exact putI_eq | exact (putI_ne (by omega)).trans (by first | exact putI_eq | exact (putI_ne (by omega)).trans (by first | exact putI_eq | exact (putI_ne (by omega)).trans (by first | first | assumption | exact g1.2 _ _ _ rfl | exact vus _ (by omega) (by omega) | exact vwr _ (by omega)) | first | assumption | exact g1.2 _ _ _ rfl | exact vus _ (by omega) (by omega) | exact vwr _ (by omega)) | first | assumption | exact g1.2 _ _ _ rfl | exact vus _ (by omega) (by omega) | exact vwr _ (by omega)) | first | assumption | exact g1.2 _ _ _ rfl | exact vus _ (by omega) (by omega) | exact vwr _ (by omega)) | first | assumption | exact g1.2 _ _ _ rfl | exact vus _ (by omega) (by omega) | exact vwr _ (by omega)) | first | assumption | exact g1.2 _ _ _ rfl | exact vus _ (by omega) (by omega) | exact vwr _ (by omega)) | first | assumption | exact g1.2 _ _ _ rfl | exact vus _ (by omega) (by omega) | exact vwr _ (by omega)) | first | assumption | exact g1.2 _ _ _ rfl | exact vus _ (by omega) (by omega) | exact vwr _ (by omega))) (k := ?_)
    refine r_iald (hm := hm) (hf := rfl) (hs := (by first | assumption | exact (g1.1 _).trans rfl)) (hi := rfl) (hn := (by omega)) (hv := (by first | exact putI_eq | exact (putI_ne (by omega)).trans (by first | exact putI_eq | exact (putI_ne (by omega)).trans (by first | exact putI_eq | exact (putI_ne (by omega)).trans (by first | exact putI_eq | exact (putI_ne (by omega)).trans (by first | exact putI_eq | exact (putI_ne (by omega)).trans (by first | exact putI_eq | exact (putI_ne (by omega)).trans (by first | exact putI_eq | exact (putI_ne (by omega)).trans (by first | first | assumption | exact g1.2 _ _ _ rfl | exact vus _ (by omega) (by omega) | exact vwr _ (by omega)) | first | assumption | exact g1.2 _ _ _ rfl | exact vus _ (by omega) (by omega) | exact vwr _ (by omega)) | first | assumption | exact g1.2 _ _ _ rfl | exact vus _ (by omega) (by omega) | exact vwr _ (by omega)) | first | assumption | exact g1.2 _ _ _ rfl | exact vus _ (by omega) (by omega) | exact vwr _ (by omega)) | first | assumption | exact g1.2 _ _ _ rfl | exact vus _ (by omega) (by omega) | exact vwr _ (by omega)) | first | assumption | exact g1.2 _ _ _ rfl | exact vus _ (by omega) (by omega) | exact vwr _ (by omega)) | first | assumption | exact g1.2 _ _ _ rfl | exact vus _ (by omega) (by omega) | exact vwr _ (by omega)) | first | assumption | exact g1.2 _ _ _ rfl | exact vus _ (by omega) (by omega) | exact vwr _ (by omega))) (k := ?_)
    refine r_aload_n hm rfl (k := ?_)
    refine r_aload_n hm rfl (k := ?_)
    refine r_getR (hm := hm) (hf := rfl) (hd := rfl) (hs := (by first | assumption | exact (g1.1 _).trans rfl)) (hv := (by first | exact putI_eq | exact (putI_ne (by omega)).trans (by first | exact putI_eq | exact (putI_ne (by omega)).trans (by first | exact putI_eq | exact (putI_ne (by omega)).trans (by first | exact putI_eq | exact (putI_ne (by omega)).trans (by first | exact putI_eq | exact (putI_ne (by omega)).trans (by first | exact putI_eq | exact (putI_ne (by omega)).trans (by first | exact putI_eq | exact (putI_ne (by omega)).trans (by first | first | assumption | exact g1.2 _ _ _ rfl | exact vus _ (by omega) (by omega) | exact vwr _ (by omega)) | first | assumption | exact g1.2 _ _ _ rfl | exact vus _ (by omega) (by omega) | exact vwr _ (by omega)) | first | assumption | exact g1.2 _ _ _ rfl | exact vus _ (by omega) (by omega) | exact vwr _ (by omega)) | first | assumption | exact g1.2 _ _ _ rfl | exact vus _ (by omega) (by omega) | exact vwr _ (by omega)) | first | assumption | exact g1.2 _ _ _ rfl | exact vus _ (by omega) (by omega) | exact vwr _ (by omega)) | first | assumption | exact g1.2 _ _ _ rfl | exact vus _ (by omega) (by omega) | exact vwr _ (by omega)) | first | assumption | exact g1.2 _ _ _ rfl | exact vus _ (by omega) (by omega) | exact vwr _ (by omega)) | first | assumption | exact g1.2 _ _ _ rfl | exact vus _ (by omega) (by omega) | exact vwr _ (by omega))) (k := ?_)
    refine r_aload_n hm rfl (k := ?_)
    refine r_getI (hm := hm) (hf := rfl) (hd := rfl) (hs := (by first | assumption | exact (g1.1 _).trans rfl)) (hv := (by first | exact putI_eq | exact (putI_ne (by omega)).trans (by first | exact putI_eq | exact (putI_ne (by omega)).trans (by first | exact putI_eq | exact (putI_ne (by omega)).trans (by first | exact putI_eq | exact (putI_ne (by omega)).trans (by first | exact putI_eq | exact (putI_ne (by omega)).trans (by first | exact putI_eq | exact (putI_ne (by omega)).trans (by first | exact putI_eq | exact (putI_ne (by omega)).trans (by first | first | assumption | exact g1.2 _ _ _ rfl | exact vus _ (by omega) (by omega) | exact vwr _ (by omega)) | first | assumption | exact g1.2 _ _ _ rfl | exact vus _ (by omega) (by omega) | exact vwr _ (by omega)) | first | assumption | exact g1.2 _ _ _ rfl | exact vus _ (by omega) (by omega) | exact vwr _ (by omega)) | first | assumption | exact g1.2 _ _ _ rfl | exact vus _ (by omega) (by omega) | exact vwr _ (by omega)) | first | assumption | exact g1.2 _ _ _ rfl | exact vus _ (by omega) (by omega) | exact vwr _ (by omega)) | first | assumption | exact g1.2 _ _ _ rfl | exact vus _ (by omega) (by omega) | exact vwr _ (by omega)) | first | assumption | exact g1.2 _ _ _ rfl | exact vus _ (by omega) (by omega) | exact vwr _ (by omega)) | first | assumption | exact g1.2 _ _ _ rfl | exact vus _ (by omega) (by omega) | exact vwr _ (by omega))) (k := ?_)
    refine r_iald (hm := hm) (hf := rfl) (hs := (by first | assumption | exact (g1.1 _).trans rfl)) (hi := rfl) (hn := (by omega)) (hv := (by first | exact putI_eq | exact (putI_ne (by omega)).trans (by first | exact putI_eq | exact (putI_ne (by omega)).trans (by first | exact putI_eq | exact (putI_ne (by omega)).trans (by first | exact putI_eq | exact (putI_ne (by omega)).trans (by first | exact putI_eq | exact (putI_ne (by omega)).trans (by first | exact putI_eq | exact (putI_ne (by omega)).trans (by first | exact putI_eq | exact (putI_ne (by omega)).trans (by first | first | assumption | exact g1.2 _ _ _ rfl | exact vus _ (by omega) (by omega) | exact vwr _ (by omega)) | first | assumption | exact g1.2 _ _ _ rfl | exact vus _ (by omega) (by omega) | exact vwr _ (by omega)) | first | assumption | exact g1.2 _ _ _ rfl | exact vus _ (by omega) (by omega) | exact vwr _ (by omega)) | first | assumption | exact g1.2 _ _ _ rfl | exact vus _ (by omega) (by omega) | exact vwr _ (by omega)) | first | assumption | exact g1.2 _ _ _ rfl | exact vus _ (by omega) (by omega) | exact vwr _ (by omega)) | first | assumption | exact g1.2 _ _ _ rfl | exact vus _ (by omega) (by omega) | exact vwr _ (by omega)) | first | assumption | exact g1.2 _ _ _ rfl | exact vus _ (by omega) (by omega) | exact vwr _ (by omega)) | first | assumption | exact g1.2 _ _ _ rfl | exact vus _ (by omega) (by omega) | exact vwr _ (by omega))) (k := ?_)
    refine r_callv (j2 := 175) hm rfl rfl rfl rfl rfl rfl (by first | assumption | exact (g1.1 _).trans rfl) (Nat.le_of_ble_eq_true rfl) (Nat.le_of_ble_eq_true rfl) rfl ⟨Nat.le_of_ble_eq_true rfl, Nat.le_of_ble_eq_true rfl, Nat.le_of_ble_eq_true rfl, Nat.le_of_ble_eq_true rfl, Nat.le_of_ble_eq_true rfl⟩ rfl (m_a g1 hc1 hc3 hR1 (i := q.2.2.2.2.2.2 q.2.2.2.2.1) (by omega)) (fun v9 h9 p9 => ?_)
    obtain ⟨e1, e2⟩ := p9
    subst e2
    replace e1 := e1.symm
    subst e1
    change RN 189 53 _ _ _ 0 0 _
    dsimp only [Option.toList, List.cons_append, List.nil_append]
    refine r_iadd hm rfl (hr := (by omega)) (k := ?_)
    refine r_aload_n hm rfl (k := ?_)
    refine r_getI (hm := hm) (hf := rfl) (hd := rfl) (hs := (by first | assumption | exact (g1.1 _).trans rfl)) (hv := (by first | exact putI_eq | exact (putI_ne (by omega)).trans (by first | exact putI_eq | exact (putI_ne (by omega)).trans (by first | exact putI_eq | exact (putI_ne (by omega)).trans (by first | exact putI_eq | exact (putI_ne (by omega)).trans (by first | exact putI_eq | exact (putI_ne (by omega)).trans (by first | exact putI_eq | exact (putI_ne (by omega)).trans (by first | exact putI_eq | exact (putI_ne (by omega)).trans (by first | first | assumption | exact g1.2 _ _ _ rfl | exact vus _ (by omega) (by omega) | exact vwr _ (by omega)) | first | assumption | exact g1.2 _ _ _ rfl | exact vus _ (by omega) (by omega) | exact vwr _ (by omega)) | first | assumption | exact g1.2 _ _ _ rfl | exact vus _ (by omega) (by omega) | exact vwr _ (by omega)) | first | assumption | exact g1.2 _ _ _ rfl | exact vus _ (by omega) (by omega) | exact vwr _ (by omega)) | first | assumption | exact g1.2 _ _ _ rfl | exact vus _ (by omega) (by omega) | exact vwr _ (by omega)) | first | assumption | exact g1.2 _ _ _ rfl | exact vus _ (by omega) (by omega) | exact vwr _ (by omega)) | first | assumption | exact g1.2 _ _ _ rfl | exact vus _ (by omega) (by omega) | exact vwr _ (by omega)) | first | assumption | exact g1.2 _ _ _ rfl | exact vus _ (by omega) (by omega) | exact vwr _ (by omega))) (k := ?_)
    refine r_icmp_gt (t := 121) hm rfl rfl (fun c58 => ?_) (fun c58 => ?_)
    · refine r_return hm rfl rfl (Nat.le_of_ble_eq_true rfl) (Nat.le_of_ble_eq_true rfl) ?_
      exact ⟨S1, by rw [← hr, plc_no (fun _ => by omega)]; exact hq, rfl⟩
    · refine r_aload_n hm rfl (k := ?_)
      refine r_getR (hm := hm) (hf := rfl) (hd := rfl) (hs := (by first | assumption | exact (g1.1 _).trans rfl)) (hv := (by first | exact putI_eq | exact (putI_ne (by omega)).trans (by first | exact putI_eq | exact (putI_ne (by omega)).trans (by first | exact putI_eq | exact (putI_ne (by omega)).trans (by first | exact putI_eq | exact (putI_ne (by omega)).trans (by first | exact putI_eq | exact (putI_ne (by omega)).trans (by first | exact putI_eq | exact (putI_ne (by omega)).trans (by first | exact putI_eq | exact (putI_ne (by omega)).trans (by first | first | assumption | exact g1.2 _ _ _ rfl | exact vus _ (by omega) (by omega) | exact vwr _ (by omega)) | first | assumption | exact g1.2 _ _ _ rfl | exact vus _ (by omega) (by omega) | exact vwr _ (by omega)) | first | assumption | exact g1.2 _ _ _ rfl | exact vus _ (by omega) (by omega) | exact vwr _ (by omega)) | first | assumption | exact g1.2 _ _ _ rfl | exact vus _ (by omega) (by omega) | exact vwr _ (by omega)) | first | assumption | exact g1.2 _ _ _ rfl | exact vus _ (by omega) (by omega) | exact vwr _ (by omega)) | first | assumption | exact g1.2 _ _ _ rfl | exact vus _ (by omega) (by omega) | exact vwr _ (by omega)) | first | assumption | exact g1.2 _ _ _ rfl | exact vus _ (by omega) (by omega) | exact vwr _ (by omega)) | first | assumption | exact g1.2 _ _ _ rfl | exact vus _ (by omega) (by omega) | exact vwr _ (by omega))) (k := ?_)
      refine r_aload_n hm rfl (k := ?_)
      refine r_getI (hm := hm) (hf := rfl) (hd := rfl) (hs := (by first | assumption | exact (g1.1 _).trans rfl)) (hv := (by first | exact putI_eq | exact (putI_ne (by omega)).trans (by first | exact putI_eq | exact (putI_ne (by omega)).trans (by first | exact putI_eq | exact (putI_ne (by omega)).trans (by first | exact putI_eq | exact (putI_ne (by omega)).trans (by first | exact putI_eq | exact (putI_ne (by omega)).trans (by first | exact putI_eq | exact (putI_ne (by omega)).trans (by first | exact putI_eq | exact (putI_ne (by omega)).trans (by first | first | assumption | exact g1.2 _ _ _ rfl | exact vus _ (by omega) (by omega) | exact vwr _ (by omega)) | first | assumption | exact g1.2 _ _ _ rfl | exact vus _ (by omega) (by omega) | exact vwr _ (by omega)) | first | assumption | exact g1.2 _ _ _ rfl | exact vus _ (by omega) (by omega) | exact vwr _ (by omega)) | first | assumption | exact g1.2 _ _ _ rfl | exact vus _ (by omega) (by omega) | exact vwr _ (by omega)) | first | assumption | exact g1.2 _ _ _ rfl | exact vus _ (by omega) (by omega) | exact vwr _ (by omega)) | first | assumption | exact g1.2 _ _ _ rfl | exact vus _ (by omega) (by omega) | exact vwr _ (by omega)) | first | assumption | exact g1.2 _ _ _ rfl | exact vus _ (by omega) (by omega) | exact vwr _ (by omega)) | first | assumption | exact g1.2 _ _ _ rfl | exact vus _ (by omega) (by omega) | exact vwr _ (by omega))) (k := ?_)
      refine r_iald (hm := hm) (hf := rfl) (hs := (by first | assumption | exact (g1.1 _).trans rfl)) (hi := rfl) (hn := (by omega)) (hv := (by first | exact putI_eq | exact (putI_ne (by omega)).trans (by first | exact putI_eq | exact (putI_ne (by omega)).trans (by first | exact putI_eq | exact (putI_ne (by omega)).trans (by first | exact putI_eq | exact (putI_ne (by omega)).trans (by first | exact putI_eq | exact (putI_ne (by omega)).trans (by first | exact putI_eq | exact (putI_ne (by omega)).trans (by first | exact putI_eq | exact (putI_ne (by omega)).trans (by first | first | assumption | exact g1.2 _ _ _ rfl | exact vus _ (by omega) (by omega) | exact vwr _ (by omega)) | first | assumption | exact g1.2 _ _ _ rfl | exact vus _ (by omega) (by omega) | exact vwr _ (by omega)) | first | assumption | exact g1.2 _ _ _ rfl | exact vus _ (by omega) (by omega) | exact vwr _ (by omega)) | first | assumption | exact g1.2 _ _ _ rfl | exact vus _ (by omega) (by omega) | exact vwr _ (by omega)) | first | assumption | exact g1.2 _ _ _ rfl | exact vus _ (by omega) (by omega) | exact vwr _ (by omega)) | first | assumption | exact g1.2 _ _ _ rfl | exact vus _ (by omega) (by omega) | exact vwr _ (by omega)) | first | assumption | exact g1.2 _ _ _ rfl | exact vus _ (by omega) (by omega) | exact vwr _ (by omega)) | first | assumption | exact g1.2 _ _ _ rfl | exact vus _ (by omega) (by omega) | exact vwr _ (by omega))) (k := ?_)
      refine r_istore_n hm rfl (k := ?_)
      refine r_aload_n hm rfl (k := ?_)
      refine r_getR (hm := hm) (hf := rfl) (hd := rfl) (hs := (by first | assumption | exact (g1.1 _).trans rfl)) (hv := (by first | exact putI_eq | exact (putI_ne (by omega)).trans (by first | exact putI_eq | exact (putI_ne (by omega)).trans (by first | exact putI_eq | exact (putI_ne (by omega)).trans (by first | exact putI_eq | exact (putI_ne (by omega)).trans (by first | exact putI_eq | exact (putI_ne (by omega)).trans (by first | exact putI_eq | exact (putI_ne (by omega)).trans (by first | exact putI_eq | exact (putI_ne (by omega)).trans (by first | first | assumption | exact g1.2 _ _ _ rfl | exact vus _ (by omega) (by omega) | exact vwr _ (by omega)) | first | assumption | exact g1.2 _ _ _ rfl | exact vus _ (by omega) (by omega) | exact vwr _ (by omega)) | first | assumption | exact g1.2 _ _ _ rfl | exact vus _ (by omega) (by omega) | exact vwr _ (by omega)) | first | assumption | exact g1.2 _ _ _ rfl | exact vus _ (by omega) (by omega) | exact vwr _ (by omega)) | first | assumption | exact g1.2 _ _ _ rfl | exact vus _ (by omega) (by omega) | exact vwr _ (by omega)) | first | assumption | exact g1.2 _ _ _ rfl | exact vus _ (by omega) (by omega) | exact vwr _ (by omega)) | first | assumption | exact g1.2 _ _ _ rfl | exact vus _ (by omega) (by omega) | exact vwr _ (by omega)) | first | assumption | exact g1.2 _ _ _ rfl | exact vus _ (by omega) (by omega) | exact vwr _ (by omega))) (k := ?_)
      refine r_iload_n hm rfl (k := ?_)
      refine r_aload_n hm rfl (k := ?_)
      refine r_getI (hm := hm) (hf := rfl) (hd := rfl) (hs := (by first | assumption | exact (g1.1 _).trans rfl)) (hv := (by first | exact putI_eq | exact (putI_ne (by omega)).trans (by first | exact putI_eq | exact (putI_ne (by omega)).trans (by first | exact putI_eq | exact (putI_ne (by omega)).trans (by first | exact putI_eq | exact (putI_ne (by omega)).trans (by first | exact putI_eq | exact (putI_ne (by omega)).trans (by first | exact putI_eq | exact (putI_ne (by omega)).trans (by first | exact putI_eq | exact (putI_ne (by omega)).trans (by first | first | assumption | exact g1.2 _ _ _ rfl | exact vus _ (by omega) (by omega) | exact vwr _ (by omega)) | first | assumption | exact g1.2 _ _ _ rfl | exact vus _ (by omega) (by omega) | exact vwr _ (by omega)) | first | assumption | exact g1.2 _ _ _ rfl | exact vus _ (by omega) (by omega) | exact vwr _ (by omega)) | first | assumption | exact g1.2 _ _ _ rfl | exact vus _ (by omega) (by omega) | exact vwr _ (by omega)) | first | assumption | exact g1.2 _ _ _ rfl | exact vus _ (by omega) (by omega) | exact vwr _ (by omega)) | first | assumption | exact g1.2 _ _ _ rfl | exact vus _ (by omega) (by omega) | exact vwr _ (by omega)) | first | assumption | exact g1.2 _ _ _ rfl | exact vus _ (by omega) (by omega) | exact vwr _ (by omega)) | first | assumption | exact g1.2 _ _ _ rfl | exact vus _ (by omega) (by omega) | exact vwr _ (by omega))) (k := ?_)
      refine r_iast (hm := hm) (hf := rfl) (h28 := (by omega)) (hs := (by first | assumption | exact (g1.1 _).trans rfl)) (hi := rfl) (hn := (by omega)) (k := ?_)
      refine r_aload_n hm rfl (k := ?_)
      refine r_getR (hm := hm) (hf := rfl) (hd := rfl) (hs := (by first | assumption | exact (g1.1 _).trans rfl)) (hv := (by first | exact putI_eq | exact (putI_ne (by omega)).trans (by first | exact putI_eq | exact (putI_ne (by omega)).trans (by first | exact putI_eq | exact (putI_ne (by omega)).trans (by first | exact putI_eq | exact (putI_ne (by omega)).trans (by first | exact putI_eq | exact (putI_ne (by omega)).trans (by first | exact putI_eq | exact (putI_ne (by omega)).trans (by first | exact putI_eq | exact (putI_ne (by omega)).trans (by first | first | assumption | exact g1.2 _ _ _ rfl | exact vus _ (by omega) (by omega) | exact vwr _ (by omega)) | first | assumption | exact g1.2 _ _ _ rfl | exact vus _ (by omega) (by omega) | exact vwr _ (by omega)) | first | assumption | exact g1.2 _ _ _ rfl | exact vus _ (by omega) (by omega) | exact vwr _ (by omega)) | first | assumption | exact g1.2 _ _ _ rfl | exact vus _ (by omega) (by omega) | exact vwr _ (by omega)) | first | assumption | exact g1.2 _ _ _ rfl | exact vus _ (by omega) (by omega) | exact vwr _ (by omega)) | first | assumption | exact g1.2 _ _ _ rfl | exact vus _ (by omega) (by omega) | exact vwr _ (by omega)) | first | assumption | exact g1.2 _ _ _ rfl | exact vus _ (by omega) (by omega) | exact vwr _ (by omega)) | first | assumption | exact g1.2 _ _ _ rfl | exact vus _ (by omega) (by omega) | exact vwr _ (by omega))) (k := ?_)
      refine r_iload_n hm rfl (k := ?_)
      refine r_aload_n hm rfl (k := ?_)
      refine r_getI (hm := hm) (hf := rfl) (hd := rfl) (hs := (by first | assumption | exact (g1.1 _).trans rfl)) (hv := (by first | exact putI_eq | exact (putI_ne (by omega)).trans (by first | exact putI_eq | exact (putI_ne (by omega)).trans (by first | exact putI_eq | exact (putI_ne (by omega)).trans (by first | exact putI_eq | exact (putI_ne (by omega)).trans (by first | exact putI_eq | exact (putI_ne (by omega)).trans (by first | exact putI_eq | exact (putI_ne (by omega)).trans (by first | exact putI_eq | exact (putI_ne (by omega)).trans (by first | first | assumption | exact g1.2 _ _ _ rfl | exact vus _ (by omega) (by omega) | exact vwr _ (by omega)) | first | assumption | exact g1.2 _ _ _ rfl | exact vus _ (by omega) (by omega) | exact vwr _ (by omega)) | first | assumption | exact g1.2 _ _ _ rfl | exact vus _ (by omega) (by omega) | exact vwr _ (by omega)) | first | assumption | exact g1.2 _ _ _ rfl | exact vus _ (by omega) (by omega) | exact vwr _ (by omega)) | first | assumption | exact g1.2 _ _ _ rfl | exact vus _ (by omega) (by omega) | exact vwr _ (by omega)) | first | assumption | exact g1.2 _ _ _ rfl | exact vus _ (by omega) (by omega) | exact vwr _ (by omega)) | first | assumption | exact g1.2 _ _ _ rfl | exact vus _ (by omega) (by omega) | exact vwr _ (by omega)) | first | assumption | exact g1.2 _ _ _ rfl | exact vus _ (by omega) (by omega) | exact vwr _ (by omega))) (k := ?_)
      refine r_iast (hm := hm) (hf := rfl) (h28 := (by omega)) (hs := (by first | assumption | exact (g1.1 _).trans rfl)) (hi := rfl) (hn := (by omega)) (k := ?_)
      have SA := Sm.put (v := (q.1 : Int)) (Sm.put (v := (q.1 : Int)) S1 (show regW 1107 (q.2.2.2.2.2.2 q.2.2.2.2.1) by unfold regW; omega)) (show regW 1108 (q.2.2.2.2.2.2 q.2.2.2.2.1) by unfold regW; omega)
      refine r_aload_n hm rfl (k := ?_)
      refine r_getR (hm := hm) (hf := rfl) (hd := rfl) (hs := (by first | assumption | exact (g1.1 _).trans rfl)) (hv := (by first | exact putI_eq | exact (putI_ne (by omega)).trans (by first | exact putI_eq | exact (putI_ne (by omega)).trans (by first | exact putI_eq | exact (putI_ne (by omega)).trans (by first | exact putI_eq | exact (putI_ne (by omega)).trans (by first | exact putI_eq | exact (putI_ne (by omega)).trans (by first | exact putI_eq | exact (putI_ne (by omega)).trans (by first | exact putI_eq | exact (putI_ne (by omega)).trans (by first | first | assumption | exact g1.2 _ _ _ rfl | exact vus _ (by omega) (by omega) | exact vwr _ (by omega)) | first | assumption | exact g1.2 _ _ _ rfl | exact vus _ (by omega) (by omega) | exact vwr _ (by omega)) | first | assumption | exact g1.2 _ _ _ rfl | exact vus _ (by omega) (by omega) | exact vwr _ (by omega)) | first | assumption | exact g1.2 _ _ _ rfl | exact vus _ (by omega) (by omega) | exact vwr _ (by omega)) | first | assumption | exact g1.2 _ _ _ rfl | exact vus _ (by omega) (by omega) | exact vwr _ (by omega)) | first | assumption | exact g1.2 _ _ _ rfl | exact vus _ (by omega) (by omega) | exact vwr _ (by omega)) | first | assumption | exact g1.2 _ _ _ rfl | exact vus _ (by omega) (by omega) | exact vwr _ (by omega)) | first | assumption | exact g1.2 _ _ _ rfl | exact vus _ (by omega) (by omega) | exact vwr _ (by omega))) (k := ?_)
      refine r_aload_n hm rfl (k := ?_)
      refine r_getI (hm := hm) (hf := rfl) (hd := rfl) (hs := (by first | assumption | exact (g1.1 _).trans rfl)) (hv := (by first | exact putI_eq | exact (putI_ne (by omega)).trans (by first | exact putI_eq | exact (putI_ne (by omega)).trans (by first | exact putI_eq | exact (putI_ne (by omega)).trans (by first | exact putI_eq | exact (putI_ne (by omega)).trans (by first | exact putI_eq | exact (putI_ne (by omega)).trans (by first | exact putI_eq | exact (putI_ne (by omega)).trans (by first | exact putI_eq | exact (putI_ne (by omega)).trans (by first | first | assumption | exact g1.2 _ _ _ rfl | exact vus _ (by omega) (by omega) | exact vwr _ (by omega)) | first | assumption | exact g1.2 _ _ _ rfl | exact vus _ (by omega) (by omega) | exact vwr _ (by omega)) | first | assumption | exact g1.2 _ _ _ rfl | exact vus _ (by omega) (by omega) | exact vwr _ (by omega)) | first | assumption | exact g1.2 _ _ _ rfl | exact vus _ (by omega) (by omega) | exact vwr _ (by omega)) | first | assumption | exact g1.2 _ _ _ rfl | exact vus _ (by omega) (by omega) | exact vwr _ (by omega)) | first | assumption | exact g1.2 _ _ _ rfl | exact vus _ (by omega) (by omega) | exact vwr _ (by omega)) | first | assumption | exact g1.2 _ _ _ rfl | exact vus _ (by omega) (by omega) | exact vwr _ (by omega)) | first | assumption | exact g1.2 _ _ _ rfl | exact vus _ (by omega) (by omega) | exact vwr _ (by omega))) (k := ?_)
      refine r_dup2 hm rfl (k := ?_)
      refine r_iald (hm := hm) (hf := rfl) (hs := (by first | assumption | exact (g1.1 _).trans rfl)) (hi := rfl) (hn := (by omega)) (hv := (by first | exact putI_eq | exact (putI_ne (by omega)).trans (by first | exact putI_eq | exact (putI_ne (by omega)).trans (by first | exact putI_eq | exact (putI_ne (by omega)).trans (by first | exact putI_eq | exact (putI_ne (by omega)).trans (by first | exact putI_eq | exact (putI_ne (by omega)).trans (by first | exact putI_eq | exact (putI_ne (by omega)).trans (by first | exact putI_eq | exact (putI_ne (by omega)).trans (by first | first | assumption | exact g1.2 _ _ _ rfl | exact vus _ (by omega) (by omega) | exact vwr _ (by omega)) | first | assumption | exact g1.2 _ _ _ rfl | exact vus _ (by omega) (by omega) | exact vwr _ (by omega)) | first | assumption | exact g1.2 _ _ _ rfl | exact vus _ (by omega) (by omega) | exact vwr _ (by omega)) | first | assumption | exact g1.2 _ _ _ rfl | exact vus _ (by omega) (by omega) | exact vwr _ (by omega)) | first | assumption | exact g1.2 _ _ _ rfl | exact vus _ (by omega) (by omega) | exact vwr _ (by omega)) | first | assumption | exact g1.2 _ _ _ rfl | exact vus _ (by omega) (by omega) | exact vwr _ (by omega)) | first | assumption | exact g1.2 _ _ _ rfl | exact vus _ (by omega) (by omega) | exact vwr _ (by omega)) | first | assumption | exact g1.2 _ _ _ rfl | exact vus _ (by omega) (by omega) | exact vwr _ (by omega))) (k := ?_)
      refine r_aload_n hm rfl (k := ?_)
      refine r_iload_n hm rfl (k := ?_)
      refine r_callv (j2 := 175) hm rfl rfl rfl rfl rfl rfl (by first | assumption | exact (g1.1 _).trans rfl) (Nat.le_of_ble_eq_true rfl) (Nat.le_of_ble_eq_true rfl) rfl ⟨Nat.le_of_ble_eq_true rfl, Nat.le_of_ble_eq_true rfl, Nat.le_of_ble_eq_true rfl, Nat.le_of_ble_eq_true rfl, Nat.le_of_ble_eq_true rfl⟩ rfl (m_a (SA.gg g) (SA.wc hc) hc3 (SA.wM hR) (i := q.2.2.2.2.2.2 q.2.2.2.2.1) (by omega)) (fun v9 h9 p9 => ?_)
      obtain ⟨e1, e2⟩ := p9
      subst e2
      replace e1 := e1.symm
      subst e1
      change RN 189 106 _ _ _ 0 0 _
      dsimp only [Option.toList, List.cons_append, List.nil_append]
      refine r_iadd hm rfl (hr := (by omega)) (k := ?_)
      refine r_iast (hm := hm) (hf := rfl) (h28 := (by omega)) (hs := (by first | assumption | exact (g1.1 _).trans rfl)) (hi := rfl) (hn := (by omega)) (k := ?_)
      refine r_aload_n hm rfl (k := ?_)
      refine r_dup hm rfl (k := ?_)
      refine r_getI (hm := hm) (hf := rfl) (hd := rfl) (hs := (by first | assumption | exact (g1.1 _).trans rfl)) (hv := (by first | exact putI_eq | exact (putI_ne (by omega)).trans (by first | exact putI_eq | exact (putI_ne (by omega)).trans (by first | exact putI_eq | exact (putI_ne (by omega)).trans (by first | exact putI_eq | exact (putI_ne (by omega)).trans (by first | exact putI_eq | exact (putI_ne (by omega)).trans (by first | exact putI_eq | exact (putI_ne (by omega)).trans (by first | exact putI_eq | exact (putI_ne (by omega)).trans (by first | first | assumption | exact g1.2 _ _ _ rfl | exact vus _ (by omega) (by omega) | exact vwr _ (by omega)) | first | assumption | exact g1.2 _ _ _ rfl | exact vus _ (by omega) (by omega) | exact vwr _ (by omega)) | first | assumption | exact g1.2 _ _ _ rfl | exact vus _ (by omega) (by omega) | exact vwr _ (by omega)) | first | assumption | exact g1.2 _ _ _ rfl | exact vus _ (by omega) (by omega) | exact vwr _ (by omega)) | first | assumption | exact g1.2 _ _ _ rfl | exact vus _ (by omega) (by omega) | exact vwr _ (by omega)) | first | assumption | exact g1.2 _ _ _ rfl | exact vus _ (by omega) (by omega) | exact vwr _ (by omega)) | first | assumption | exact g1.2 _ _ _ rfl | exact vus _ (by omega) (by omega) | exact vwr _ (by omega)) | first | assumption | exact g1.2 _ _ _ rfl | exact vus _ (by omega) (by omega) | exact vwr _ (by omega))) (k := ?_)
      refine r_iconst hm rfl (k := ?_)
      refine r_iadd hm rfl (hr := (by omega)) (k := ?_)
      refine r_putI (hm := hm) (hf := rfl) (hd := rfl) (hs := (by first | assumption | exact (g1.1 _).trans rfl)) (hfin := Or.inl rfl) (hz := fun q9 => absurd q9 (by decide)) (k := ?_)
      refine r_goto (t := 20) hm rfl (k := ?_)
      refine ih (d - 1) (by omega) (pl1 x q) _ r _ (by show d - 1 = q.2.2.2.2.2.1 - (q.2.2.2.2.1 + 1); omega) (Sm.put (Sm.put SA (by unfold regW; omega)) (by unfold regW; omega)) ?_ (pl1_ok hH ok (by omega) (by omega)) (by rw [← hr, plc_go (d := d) (q := q) (by omega) (by omega)])
      unfold PgM
      simp (disch := omega) only [putI_fne, putI_feq, upf_ne, upf_eq]
      exact hq.pl1
set_option maxRecDepth 8000 in
theorem m_room {L : Nat} {h : Hp} {c : Nat} {x : Tx} (g : GG L h) (hc : h.2.1 1085 12 = (c : Int)) (hc3 : c ≤ 3) (hR : RepM h c x) {T N : Nat} {H : Int} {q : PS} (hH : 8 ≤ H ∧ H ≤ 60) (hq : PgM h H q) (ok : PSok x T N q) (hT : T ≤ 1200) (hN : N ≤ 59) (hN2 : N ≤ x.1) {n : Int} (hn : 0 ≤ n ∧ n ≤ 300) : RN 191 0 [some (.inr (.inr (some 1085))), some (.inl n)] [] h 0 0 (fun v h2 => Sm regW h h2 ∧ PgM h2 H (rm x H n q) ∧ v = none) := by
  have hm : mrec 191 = some nM191 := rfl
  obtain ⟨v5, v6, v7, v8, vus, vfp, vlp, vwr⟩ := id hq
  obtain ⟨o1, o2, o3, o4, o5, o6, o7, o8, o9, o10⟩ := ok.1
  suffices LP : ∀ (d : Nat) (q : PS) (h1 : Hp) (r : PS), (q.2.2.2.2.2.1 - q.2.2.2.2.1) + ind0 (q.2.1 q.1) + 1 ≤ d → Sm regW h h1 → PgM h1 H q → PSok x T N q → rmN x H n d q = r → RN 191 0 [some (.inr (.inr (some 1085))), some (.inl n)] [] h1 0 0 (fun v h2 => Sm regW h h2 ∧ PgM h2 H (r) ∧ v = none) from LP 61 q h _ (by have := ind0_le (q.2.1 q.1); omega) Sm.refl hq ok rfl
  clear hq ok v5 v6 v7 v8 vus vfp vlp vwr o1 o2 o3 o4 o5 o6 o7 o8 o9 o10
  refine fun d => Nat.strongRecOn d (fun d ih => ?_)
  intro q h1 r hd S1 hq ok hr
  have g1 := S1.gg g
  have hc1 := S1.wc hc
  have hR1 := S1.wM hR
  obtain ⟨v5, v6, v7, v8, vus, vfp, vlp, vwr⟩ := id hq
  obtain ⟨o1, o2, o3, o4, o5, o6, o7, o8, o9, o10⟩ := ok.1
  refine r_aload_n hm rfl (k := ?_)
  refine r_getR (hm := hm) (hf := rfl) (hd := rfl) (hs := (by first | assumption | exact (g1.1 _).trans rfl)) (hv := (by first | exact putI_eq | exact (putI_ne (by omega)).trans (by first | exact putI_eq | exact (putI_ne (by omega)).trans (by first | exact putI_eq | exact (putI_ne (by omega)).trans (by first | exact putI_eq | exact (putI_ne (by omega)).trans (by first | exact putI_eq | exact (putI_ne (by omega)).trans (by first | exact putI_eq | exact (putI_ne (by omega)).trans (by first | exact putI_eq | exact (putI_ne (by omega)).trans (by first | first | assumption | exact g1.2 _ _ _ rfl | exact vus _ (by omega) (by omega) | exact vwr _ (by omega)) | first | assumption | exact g1.2 _ _ _ rfl | exact vus _ (by omega) (by omega) | exact vwr _ (by omega)) | first | assumption | exact g1.2 _ _ _ rfl | exact vus _ (by omega) (by omega) | exact vwr _ (by omega)) | first | assumption | exact g1.2 _ _ _ rfl | exact vus _ (by omega) (by omega) | exact vwr _ (by omega)) | first | assumption | exact g1.2 _ _ _ rfl | exact vus _ (by omega) (by omega) | exact vwr _ (by omega)) | first | assumption | exact g1.2 _ _ _ rfl | exact vus _ (by omega) (by omega) | exact vwr _ (by omega)) | first | assumption | exact g1.2 _ _ _ rfl | exact vus _ (by omega) (by omega) | exact vwr _ (by omega)) | first | assumption | exact g1.2 _ _ _ rfl | exact vus _ (by omega) (by omega) | exact vwr _ (by omega))) (k := ?_)
  refine r_aload_n hm rfl (k := ?_)
  refine r_getI (hm := hm) (hf := rfl) (hd := rfl) (hs := (by first | assumption | exact (g1.1 _).trans rfl)) (hv := (by first | exact putI_eq | exact (putI_ne (by omega)).trans (by first | exact putI_eq | exact (putI_ne (by omega)).trans (by first | exact putI_eq | exact (putI_ne (by omega)).trans (by first | exact putI_eq | exact (putI_ne (by omega)).trans (by first | exact putI_eq | exact (putI_ne (by omega)).trans (by first | exact putI_eq | exact (putI_ne (by omega)).trans (by first | exact putI_eq | exact (putI_ne (by omega)).trans (by first | first | assumption | exact g1.2 _ _ _ rfl | exact vus _ (by omega) (by omega) | exact vwr _ (by omega)) | first | assumption | exact g1.2 _ _ _ rfl | exact vus _ (by omega) (by omega) | exact vwr _ (by omega)) | first | assumption | exact g1.2 _ _ _ rfl | exact vus _ (by omega) (by omega) | exact vwr _ (by omega)) | first | assumption | exact g1.2 _ _ _ rfl | exact vus _ (by omega) (by omega) | exact vwr _ (by omega)) | first | assumption | exact g1.2 _ _ _ rfl | exact vus _ (by omega) (by omega) | exact vwr _ (by omega)) | first | assumption | exact g1.2 _ _ _ rfl | exact vus _ (by omega) (by omega) | exact vwr _ (by omega)) | first | assumption | exact g1.2 _ _ _ rfl | exact vus _ (by omega) (by omega) | exact vwr _ (by omega)) | first | assumption | exact g1.2 _ _ _ rfl | exact vus _ (by omega) (by omega) | exact vwr _ (by omega))) (k := ?_)
  refine r_iald (hm := hm) (hf := rfl) (hs := (by first | assumption | exact (g1.1 _).trans rfl)) (hi := rfl) (hn := (by omega)) (hv := (by first | exact putI_eq | exact (putI_ne (by omega)).trans (by first | exact putI_eq | exact (putI_ne (by omega)).trans (by first | exact putI_eq | exact (putI_ne (by omega)).trans (by first | exact putI_eq | exact (putI_ne (by omega)).trans (by first | exact putI_eq | exact (putI_ne (by omega)).trans (by first | exact putI_eq | exact (putI_ne (by omega)).trans (by first | exact putI_eq | exact (putI_ne (by omega)).trans (by first | first | assumption | exact g1.2 _ _ _ rfl | exact vus _ (by omega) (by omega) | exact vwr _ (by omega)) | first | assumption | exact g1.2 _ _ _ rfl | exact vus _ (by omega) (by omega) | exact vwr _ (by omega)) | first | assumption | exact g1.2 _ _ _ rfl | exact vus _ (by omega) (by omega) | exact vwr _ (by omega)) | first | assumption | exact g1.2 _ _ _ rfl | exact vus _ (by omega) (by omega) | exact vwr _ (by omega)) | first | assumption | exact g1.2 _ _ _ rfl | exact vus _ (by omega) (by omega) | exact vwr _ (by omega)) | first | assumption | exact g1.2 _ _ _ rfl | exact vus _ (by omega) (by omega) | exact vwr _ (by omega)) | first | assumption | exact g1.2 _ _ _ rfl | exact vus _ (by omega) (by omega) | exact vwr _ (by omega)) | first | assumption | exact g1.2 _ _ _ rfl | exact vus _ (by omega) (by omega) | exact vwr _ (by omega))) (k := ?_)
  refine r_iload_n hm rfl (k := ?_)
  refine r_iadd hm rfl (hr := (by omega)) (k := ?_)
  refine r_aload_n hm rfl (k := ?_)
  refine r_getI (hm := hm) (hf := rfl) (hd := rfl) (hs := (by first | assumption | exact (g1.1 _).trans rfl)) (hv := (by first | exact putI_eq | exact (putI_ne (by omega)).trans (by first | exact putI_eq | exact (putI_ne (by omega)).trans (by first | exact putI_eq | exact (putI_ne (by omega)).trans (by first | exact putI_eq | exact (putI_ne (by omega)).trans (by first | exact putI_eq | exact (putI_ne (by omega)).trans (by first | exact putI_eq | exact (putI_ne (by omega)).trans (by first | exact putI_eq | exact (putI_ne (by omega)).trans (by first | first | assumption | exact g1.2 _ _ _ rfl | exact vus _ (by omega) (by omega) | exact vwr _ (by omega)) | first | assumption | exact g1.2 _ _ _ rfl | exact vus _ (by omega) (by omega) | exact vwr _ (by omega)) | first | assumption | exact g1.2 _ _ _ rfl | exact vus _ (by omega) (by omega) | exact vwr _ (by omega)) | first | assumption | exact g1.2 _ _ _ rfl | exact vus _ (by omega) (by omega) | exact vwr _ (by omega)) | first | assumption | exact g1.2 _ _ _ rfl | exact vus _ (by omega) (by omega) | exact vwr _ (by omega)) | first | assumption | exact g1.2 _ _ _ rfl | exact vus _ (by omega) (by omega) | exact vwr _ (by omega)) | first | assumption | exact g1.2 _ _ _ rfl | exact vus _ (by omega) (by omega) | exact vwr _ (by omega)) | first | assumption | exact g1.2 _ _ _ rfl | exact vus _ (by omega) (by omega) | exact vwr _ (by omega))) (k := ?_)
  refine r_icmp_le (t := 37) hm rfl rfl (fun c15 => ?_) (fun c15 => ?_)
  · refine r_return hm rfl rfl (Nat.le_of_ble_eq_true rfl) (Nat.le_of_ble_eq_true rfl) ?_
    exact ⟨S1, by rw [← hr, rmN_no (by omega)]; exact hq, rfl⟩
  · refine r_aload_n hm rfl (k := ?_)
    refine r_getR (hm := hm) (hf := rfl) (hd := rfl) (hs := (by first | assumption | exact (g1.1 _).trans rfl)) (hv := (by first | exact putI_eq | exact (putI_ne (by omega)).trans (by first | exact putI_eq | exact (putI_ne (by omega)).trans (by first | exact putI_eq | exact (putI_ne (by omega)).trans (by first | exact putI_eq | exact (putI_ne (by omega)).trans (by first | exact putI_eq | exact (putI_ne (by omega)).trans (by first | exact putI_eq | exact (putI_ne (by omega)).trans (by first | exact putI_eq | exact (putI_ne (by omega)).trans (by first | first | assumption | exact g1.2 _ _ _ rfl | exact vus _ (by omega) (by omega) | exact vwr _ (by omega)) | first | assumption | exact g1.2 _ _ _ rfl | exact vus _ (by omega) (by omega) | exact vwr _ (by omega)) | first | assumption | exact g1.2 _ _ _ rfl | exact vus _ (by omega) (by omega) | exact vwr _ (by omega)) | first | assumption | exact g1.2 _ _ _ rfl | exact vus _ (by omega) (by omega) | exact vwr _ (by omega)) | first | assumption | exact g1.2 _ _ _ rfl | exact vus _ (by omega) (by omega) | exact vwr _ (by omega)) | first | assumption | exact g1.2 _ _ _ rfl | exact vus _ (by omega) (by omega) | exact vwr _ (by omega)) | first | assumption | exact g1.2 _ _ _ rfl | exact vus _ (by omega) (by omega) | exact vwr _ (by omega)) | first | assumption | exact g1.2 _ _ _ rfl | exact vus _ (by omega) (by omega) | exact vwr _ (by omega))) (k := ?_)
    refine r_aload_n hm rfl (k := ?_)
    refine r_getI (hm := hm) (hf := rfl) (hd := rfl) (hs := (by first | assumption | exact (g1.1 _).trans rfl)) (hv := (by first | exact putI_eq | exact (putI_ne (by omega)).trans (by first | exact putI_eq | exact (putI_ne (by omega)).trans (by first | exact putI_eq | exact (putI_ne (by omega)).trans (by first | exact putI_eq | exact (putI_ne (by omega)).trans (by first | exact putI_eq | exact (putI_ne (by omega)).trans (by first | exact putI_eq | exact (putI_ne (by omega)).trans (by first | exact putI_eq | exact (putI_ne (by omega)).trans (by first | first | assumption | exact g1.2 _ _ _ rfl | exact vus _ (by omega) (by omega) | exact vwr _ (by omega)) | first | assumption | exact g1.2 _ _ _ rfl | exact vus _ (by omega) (by omega) | exact vwr _ (by omega)) | first | assumption | exact g1.2 _ _ _ rfl | exact vus _ (by omega) (by omega) | exact vwr _ (by omega)) | first | assumption | exact g1.2 _ _ _ rfl | exact vus _ (by omega) (by omega) | exact vwr _ (by omega)) | first | assumption | exact g1.2 _ _ _ rfl | exact vus _ (by omega) (by omega) | exact vwr _ (by omega)) | first | assumption | exact g1.2 _ _ _ rfl | exact vus _ (by omega) (by omega) | exact vwr _ (by omega)) | first | assumption | exact g1.2 _ _ _ rfl | exact vus _ (by omega) (by omega) | exact vwr _ (by omega)) | first | assumption | exact g1.2 _ _ _ rfl | exact vus _ (by omega) (by omega) | exact vwr _ (by omega))) (k := ?_)
    refine r_iald (hm := hm) (hf := rfl) (hs := (by first | assumption | exact (g1.1 _).trans rfl)) (hi := rfl) (hn := (by omega)) (hv := (by first | exact putI_eq | exact (putI_ne (by omega)).trans (by first | exact putI_eq | exact (putI_ne (by omega)).trans (by first | exact putI_eq | exact (putI_ne (by omega)).trans (by first | exact putI_eq | exact (putI_ne (by omega)).trans (by first | exact putI_eq | exact (putI_ne (by omega)).trans (by first | exact putI_eq | exact (putI_ne (by omega)).trans (by first | exact putI_eq | exact (putI_ne (by omega)).trans (by first | first | assumption | exact g1.2 _ _ _ rfl | exact vus _ (by omega) (by omega) | exact vwr _ (by omega)) | first | assumption | exact g1.2 _ _ _ rfl | exact vus _ (by omega) (by omega) | exact vwr _ (by omega)) | first | assumption | exact g1.2 _ _ _ rfl | exact vus _ (by omega) (by omega) | exact vwr _ (by omega)) | first | assumption | exact g1.2 _ _ _ rfl | exact vus _ (by omega) (by omega) | exact vwr _ (by omega)) | first | assumption | exact g1.2 _ _ _ rfl | exact vus _ (by omega) (by omega) | exact vwr _ (by omega)) | first | assumption | exact g1.2 _ _ _ rfl | exact vus _ (by omega) (by omega) | exact vwr _ (by omega)) | first | assumption | exact g1.2 _ _ _ rfl | exact vus _ (by omega) (by omega) | exact vwr _ (by omega)) | first | assumption | exact g1.2 _ _ _ rfl | exact vus _ (by omega) (by omega) | exact vwr _ (by omega))) (k := ?_)
    refine r_if_eq (t := 37) hm rfl rfl (fun c27 => ?_) (fun c27 => ?_)
    · refine r_return hm rfl rfl (Nat.le_of_ble_eq_true rfl) (Nat.le_of_ble_eq_true rfl) ?_
      exact ⟨S1, by rw [← hr, rmN_no (by omega)]; exact hq, rfl⟩
    · refine r_aload_n hm rfl (k := ?_)
      refine r_callv (j2 := 189) hm rfl rfl rfl rfl rfl rfl (by first | assumption | exact (g1.1 _).trans rfl) (Nat.le_of_ble_eq_true rfl) (Nat.le_of_ble_eq_true rfl) rfl ⟨Nat.le_of_ble_eq_true rfl, Nat.le_of_ble_eq_true rfl, Nat.le_of_ble_eq_true rfl, Nat.le_of_ble_eq_true rfl, Nat.le_of_ble_eq_true rfl⟩ rfl (m_newPage g1 hc1 hc3 hR1 hH hq ok.1 hT (by omega) hN2 (by omega)) (fun v9 h9 p9 => ?_)
      obtain ⟨SB, hq2, e1⟩ := p9
      subst e1
      change RN 191 34 _ _ _ 0 0 _
      dsimp only [Option.toList, List.nil_append]
      refine r_goto (t := 0) hm rfl (k := ?_)
      have hu : q.2.1 q.1 ≠ 0 := by omega
      exact ih (d - 1) (by omega) (tn x H q) h9 r (tn_less hH ok hu hd) (S1.trans SB) hq2 (tn_ok hH ok.1 hu).1 (by rw [← hr, rmN_go (d := d) (q := q) (by omega) (by omega)])
/-- the lines of a heading of level a -/
def hli (a : Int) : Int := if a = 1 then 3 else if a = 2 then 2 else 1
theorem m_highOf {h : Hp} {a : Int} : RN 190 0 [some (.inl a)] [] h 0 0 (fun v h2 => h2 = h ∧ v = some (.inl (hli a))) := by
  have hm : mrec 190 = some nM190 := rfl
  refine r_iload_n hm rfl (k := ?_)
  refine r_iconst hm rfl (k := ?_)
  refine r_icmp_ne (t := 9) hm rfl rfl (fun c2 => ?_) (fun c2 => ?_)
  · refine r_iload_n hm rfl (k := ?_)
    refine r_iconst hm rfl (k := ?_)
    refine r_icmp_ne (t := 18) hm rfl rfl (fun c11 => ?_) (fun c11 => ?_)
    · refine r_iconst hm rfl (k := ?_)
      refine r_ireturn hm rfl rfl (by rfl) (Nat.le_of_ble_eq_true rfl) (Nat.le_of_ble_eq_true rfl) ?_
      exact ⟨rfl, by unfold hli; congr 2; (repeat' split) <;> omega⟩
    · refine r_iconst hm rfl (k := ?_)
      refine r_goto (t := 19) hm rfl (k := ?_)
      refine r_ireturn hm rfl rfl (by rfl) (Nat.le_of_ble_eq_true rfl) (Nat.le_of_ble_eq_true rfl) ?_
      exact ⟨rfl, by unfold hli; congr 2; (repeat' split) <;> omega⟩
  · refine r_iconst hm rfl (k := ?_)
    refine r_goto (t := 19) hm rfl (k := ?_)
    refine r_ireturn hm rfl rfl (by rfl) (Nat.le_of_ble_eq_true rfl) (Nat.le_of_ble_eq_true rfl) ?_
    exact ⟨rfl, by unfold hli; congr 2; (repeat' split) <;> omega⟩
