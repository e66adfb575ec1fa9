/-! beside: the reference -/
/-- what is kept of item q of a version -/
def Wd (h : Hp) (y : Tx) (H : Int) (q : Nat) : Prop := h.2.1 1118 (y.2.1 0 q).toNat = (q : Int) ∧ h.2.1 1119 (y.2.1 0 q).toNat = nLen y q ∧ h.2.1 1121 (y.2.1 0 q).toNat = nOwn y q ∧ h.2.1 1122 (y.2.1 0 q).toNat = fpF y H q ∧ (∀ k : Nat, k < 4 → (k : Int) < nLen y q → h.2.1 1120 (4 * (y.2.1 0 q).toNat + k) = nRow y q k) ∧ ∀ k : Nat, k < 20 → h.2.1 1123 (20 * (y.2.1 0 q).toNat + k) = (if k < pcs y q ∧ y.2.2.1 0 q k = 1 then ltF y H q k else 0) ∧ h.2.1 1124 (20 * (y.2.1 0 q).toNat + k) = (if k < pcs y q ∧ y.2.2.1 0 q k = 1 then nmn y q k else -2)
def Was (h : Hp) (y : Tx) (H : Int) (i : Nat) : Prop := (∀ q, q < i → Wd h y H q) ∧ ∀ n : Nat, n < 200 → (∀ q, q < i → y.2.1 0 q ≠ (n : Int)) → h.2.1 1118 n = -1
/-- places of name n -/
def rgN (n : Nat) (a k : Nat) : Prop := ((a = 1118 ∨ a = 1119 ∨ a = 1121 ∨ a = 1122) ∧ k = n) ∨ (a = 1120 ∧ 4 * n ≤ k ∧ k < 4 * n + 4) ∨ ((a = 1123 ∨ a = 1124) ∧ 20 * n ≤ k ∧ k < 20 * n + 20)
theorem Wd.same {S : Nat → Nat → Prop} {h h2 : Hp} {y : Tx} {H : Int} {q : Nat} (w : Wd h y H q) (m : Sm S h h2) (hS : ∀ a k, S a k → ¬ rgN (y.2.1 0 q).toNat a k) : Wd h2 y H q := by
  obtain ⟨w1, w2, w3, w4, w5, w6⟩ := w
  have e : ∀ a k, rgN (y.2.1 0 q).toNat a k → h2.2.1 a k = h.2.1 a k := fun a k z => m.2.2 a k (fun z2 => hS a k z2 z)
  refine ⟨(e _ _ (by unfold rgN; omega)).trans w1, (e _ _ (by unfold rgN; omega)).trans w2, (e _ _ (by unfold rgN; omega)).trans w3, (e _ _ (by unfold rgN; omega)).trans w4, fun k hk hl => (e _ _ (by unfold rgN; omega)).trans (w5 k hk hl), fun k hk => ⟨(e _ _ (by unfold rgN; omega)).trans (w6 k hk).1, (e _ _ (by unfold rgN; omega)).trans (w6 k hk).2⟩⟩
theorem Was.same {S : Nat → Nat → Prop} {h h2 : Hp} {y : Tx} {H : Int} {i : Nat} (w : Was h y H i) (m : Sm S h h2) (hS : ∀ a k, S a k → a < 1118 ∨ 1124 < a) : Was h2 y H i := ⟨fun q hq => (w.1 q hq).same m (fun a k z z2 => by have := hS a k z; unfold rgN at z2; omega), fun n hn hq => (m.2.2 _ _ (fun z => by have := hS _ _ z; omega)).trans (w.2 n hn hq)⟩
theorem fi_none {p : Nat → Bool} : ∀ (d i : Nat), fi p i d = -1 → ∀ k, i ≤ k → k < i + d → p k = false := by
  intro d
  induction d with
  | zero => intro i _ k h1 h2; omega
  | succ d ih =>
    intro i h k h1 h2
    unfold fi at h
    by_cases e : p i = true
    · rw [if_pos e] at h; omega
    · rw [if_neg e] at h
      by_cases e2 : k = i
      · rw [e2]; simpa using e
      · exact ih (i + 1) h k (by omega) (by omega)
theorem pnm_val {y : Tx} {n : Int} (h : pnm y n ≠ -1) : y.2.1 0 (pnm y n).toNat = n := by
  have h2 : (y.2.1 0 (pnm y n).toNat == n) = true := fi_val (p := fun k => y.2.1 0 k == n) y.1 0 h
  exact eq_of_beq h2
theorem pnm_no {y : Tx} {n : Int} (h : pnm y n = -1) : ∀ q, q < y.1 → y.2.1 0 q ≠ n := by
  intro q hq e
  have := fi_none (p := fun k => y.2.1 0 k == n) y.1 0 h q (by omega) (by omega)
  simp [e] at this
theorem Was.pn {h : Hp} {y : Tx} {H : Int} (w : Was h y H y.1) {n : Int} (h0 : 0 ≤ n ∧ n < 200) : h.2.1 1118 n.toNat = pnm y n := by
  by_cases e : pnm y n = -1
  · rw [e]
    exact w.2 n.toNat (by omega) (fun q hq => by rw [show ((n.toNat : Nat) : Int) = n by omega]; exact pnm_no e q hq)
  · have e2 := pnm_val e
    have hr := @pnm_rng y n
    have e3 := (w.1 (pnm y n).toNat (by omega)).1
    rw [e2] at e3
    rw [e3]
    omega
theorem nRow_c {x : Tx} (hok : okTx x) {i : Nat} (hi : i < x.1) (k : Nat) : ((k : Int) < nLen x i ∧ 0 ≤ nRow x i k) ∨ (nLen x i ≤ (k : Int) ∧ nRow x i k = -1) := by
  have u := (nsN_ok hok (i + 1) (by omega)).1 k
  unfold nRow
  by_cases e : (k : Int) < nLen x i
  · rw [if_pos e]; left; exact ⟨e, u.1⟩
  · rw [if_neg e]; right; omega
theorem nLen_rng {x : Tx} (hok : okTx x) {i : Nat} (hi : i < x.1) : 1 ≤ nLen x i ∧ nLen x i ≤ 4 := by
  obtain ⟨s1, s2, s3, s4, s5⟩ := nSec_lt hok hi
  unfold nLen
  split
  · omega
  · rename_i e
    have h1 := hok.2.1 (nSec x i).toNat (by omega)
    unfold okIt at h1
    have := s5 e
    omega
theorem nmn_rng {x : Tx} (hok : okTx x) {i k : Nat} : -1 ≤ nmn x i k := by
  have hr := @mnt_rng x i k
  unfold nmn
  split
  · omega
  · have h1 := hok.2.1 (mnt x i k).toNat (by omega)
    unfold okIt at h1
    omega
theorem m_nameMeant {L : Nat} {h : Hp} {c : Nat} {x : Tx} (g : GG L h) (hc : h.2.1 1085 12 = (c : Int)) (hc3 : c ≤ 3) (hR : RepM h c x) (hok : okTx x) {i k : Nat} (hi : i < x.1) (hk : k < pcs x i) (hk1 : x.2.2.1 0 i k = 1) : RN 224 0 [some (.inr (.inr (some 1085))), some (.inl (i : Int)), some (.inl (k : Int)), none] [] h 0 0 (fun v h2 => h2 = h ∧ v = some (.inl (nmn x i k))) := by
  have hm : mrec 224 = some nM224 := rfl
  obtain ⟨M0, M1, M2, M3, M4, Q0, Q1, Q2, S0, N0, N1⟩ := hR.use
  have n60 := hok.1
  obtain ⟨ep, ep2⟩ := pcs_eq hok hi
  have hz := hok.2.2.1 i k hi (by omega)
  unfold okPc at hz
  have hmr := @mnt_rng x i k
  have qM := m_meant g hc hc3 hR (m := x.2.2.1 1 i k) (by omega)
  rw [show fi (fun q => x.2.1 3 q == x.2.2.1 1 i k) 0 x.1 = mnt x i k from (if_pos hk1).symm] at qM
  have g1 := g
  refine r_aload_n hm rfl (k := ?_)
  refine r_aload_n hm rfl (k := ?_)
  refine r_getR (hm := hm) (hf := rfl) (hd := rfl) (hs := (by first | assumption | exact (g1.1 _).trans rfl)) (hv := (by first | assumption | exact g1.2 _ _ _ rfl | exact Q1 _ _ (by omega) (by omega) | exact M0 _ (by omega))) (k := ?_)
  refine r_aload_n hm rfl (k := ?_)
  refine r_iload_n hm rfl (k := ?_)
  refine r_iload_n hm rfl (k := ?_)
  refine r_callv (j2 := 186) hm rfl rfl rfl rfl rfl rfl (by first | assumption | exact (g1.1 _).trans rfl) (Nat.le_of_ble_eq_true rfl) (Nat.le_of_ble_eq_true rfl) rfl ⟨Nat.le_of_ble_eq_true rfl, Nat.le_of_ble_eq_true rfl, Nat.le_of_ble_eq_true rfl, Nat.le_of_ble_eq_true rfl, Nat.le_of_ble_eq_true rfl⟩ rfl (m_place g hc hc3 hR (i := i) (k := k) (by omega) (by omega)) (fun v9 h9 p9 => ?_)
  obtain ⟨e1, e2⟩ := p9
  subst e2
  replace e1 := e1.symm
  subst e1
  change RN 224 11 _ _ _ 0 0 _
  dsimp only [Option.toList, List.cons_append, List.nil_append]
  refine r_iald (hm := hm) (hf := rfl) (hs := (by first | assumption | exact (g1.1 _).trans rfl)) (hi := rfl) (hn := (by omega)) (hv := (by first | assumption | exact g1.2 _ _ _ rfl | exact Q1 _ _ (by omega) (by omega) | exact M0 _ (by omega))) (k := ?_)
  refine r_callv (j2 := 199) hm rfl rfl rfl rfl rfl rfl (by first | assumption | exact (g1.1 _).trans rfl) (Nat.le_of_ble_eq_true rfl) (Nat.le_of_ble_eq_true rfl) rfl ⟨Nat.le_of_ble_eq_true rfl, Nat.le_of_ble_eq_true rfl, Nat.le_of_ble_eq_true rfl, Nat.le_of_ble_eq_true rfl, Nat.le_of_ble_eq_true rfl⟩ rfl (qM) (fun v9 h9 p9 => ?_)
  obtain ⟨e1, e2⟩ := p9
  subst e2
  replace e1 := e1.symm
  subst e1
  change RN 224 15 _ _ _ 0 0 _
  dsimp only [Option.toList, List.cons_append, List.nil_append]
  refine r_istore_n hm rfl (k := ?_)
  refine r_iload_n hm rfl (k := ?_)
  refine r_if_ge (t := 24) hm rfl rfl (fun c17 => ?_) (fun c17 => ?_)
  · refine r_aload_n hm rfl (k := ?_)
    refine r_getR (hm := hm) (hf := rfl) (hd := rfl) (hs := (by first | assumption | exact (g1.1 _).trans rfl)) (hv := (by first | assumption | exact g1.2 _ _ _ rfl | exact Q1 _ _ (by omega) (by omega) | exact M0 _ (by omega))) (k := ?_)
    refine r_bipush hm rfl (k := ?_)
    refine r_aload_n hm rfl (k := ?_)
    refine r_getI (hm := hm) (hf := rfl) (hd := rfl) (hs := (by first | assumption | exact (g1.1 _).trans rfl)) (hv := (by first | assumption | exact g1.2 _ _ _ rfl | exact Q1 _ _ (by omega) (by omega) | exact M0 _ (by omega))) (k := ?_)
    refine r_imul hm rfl (hr := (by omega)) (k := ?_)
    refine r_iload_n hm rfl (k := ?_)
    refine r_iadd hm rfl (hr := (by omega)) (k := ?_)
    refine r_iald (hm := hm) (hf := rfl) (hs := (by first | assumption | exact (g1.1 _).trans rfl)) (kk := 60 * c + (mnt x i k).toNat) (hi := by omega) (hn := (by omega)) (hv := (by first | assumption | exact g1.2 _ _ _ rfl | exact Q1 _ _ (by omega) (by omega) | exact M0 _ (by omega))) (k := ?_)
    refine r_ireturn hm rfl rfl (by rfl) (Nat.le_of_ble_eq_true rfl) (Nat.le_of_ble_eq_true rfl) ?_
    exact ⟨rfl, by unfold nmn; first | (rw [if_pos (by omega)]; done) | (rw [if_neg (by omega)]; done)⟩
  · refine r_iconst hm rfl (k := ?_)
    refine r_goto (t := 38) hm rfl (k := ?_)
    refine r_ireturn hm rfl rfl (by rfl) (Nat.le_of_ble_eq_true rfl) (Nat.le_of_ble_eq_true rfl) ?_
    exact ⟨rfl, by unfold nmn; first | (rw [if_pos (by omega)]; done) | (rw [if_neg (by omega)]; done)⟩
set_option maxHeartbeats 4000000 in
set_option maxRecDepth 8000 in
theorem m_hasOther {L : Nat} {h : Hp} {x y : Tx} {H : Int} {i q : Nat} (g : GG L h) (okx : okTx x) (oky : okTx y) (hi : i < x.1) (hq : q < y.1) (nx : NmM h x x.1) (wd : Wd h y H q) : RN 225 0 [some (.inr (.inr (some 1085))), some (.inl ((y.2.1 0 q).toNat : Int)), some (.inl (i : Int)), none, none] [] h 0 0 (fun v h2 => h2 = h ∧ v = some (.inl (if lkn x y i q = true then 0 else 1))) := by
  have hm : mrec 225 = some nM225 := rfl
  have n60 := okx.1
  have hqn := oky.2.1 q hq
  unfold okIt at hqn
  obtain ⟨w1, w2, w3, w4, w5, w6⟩ := wd
  obtain ⟨n1, n2, n3, n4, n5⟩ := nx i hi
  have lx := nLen_rng okx hi
  have ly9 := nLen_rng oky hq
  have r0 := nRow_c okx hi 0
  have r1 := nRow_c okx hi 1
  have r2 := nRow_c okx hi 2
  have r3 := nRow_c okx hi 3
  have s0 := nRow_c oky hq 0
  have s1 := nRow_c oky hq 1
  have s2 := nRow_c oky hq 2
  have s3 := nRow_c oky hq 3
  have nlk : (nLen y q ≠ nLen x i ∨ nOwn y q ≠ nOwn x i) → ¬ lkn x y i q = true := fun z z2 => by
    unfold lkn at z2
    rw [decide_eq_true_eq] at z2
    omega
  have lk4 : lkn x y i q = true → ∀ k, k < 4 → nRow y q k = nRow x i k := fun z k hk => by
    unfold lkn at z
    rw [decide_eq_true_eq] at z
    have : k = 0 ∨ k = 1 ∨ k = 2 ∨ k = 3 := by omega
    rcases this with rfl | rfl | rfl | rfl <;> omega
  have mkl : nLen y q = nLen x i → nOwn y q = nOwn x i → (∀ k2 : Nat, (k2 : Int) < nLen x i → nRow y q k2 = nRow x i k2) → lkn x y i q = true := fun z1 z2 z3 => by
    have t0 := z3 0
    have t1 := z3 1
    have t2 := z3 2
    have t3 := z3 3
    unfold lkn
    rw [decide_eq_true_eq]
    omega
  clear r0 r1 r2 r3 s0 s1 s2 s3
  have g1 := g
  refine r_aload_n hm rfl (k := ?_)
  refine r_getR (hm := hm) (hf := rfl) (hd := rfl) (hs := (by first | assumption | exact (g1.1 _).trans rfl)) (hv := (by first | assumption | exact g1.2 _ _ _ rfl | exact w2 | exact w3 | exact n2 | exact n3 | exact eA | exact eB)) (k := ?_)
  refine r_iload_n hm rfl (k := ?_)
  refine r_iald (hm := hm) (hf := rfl) (hs := (by first | assumption | exact (g1.1 _).trans rfl)) (kk := (y.2.1 0 q).toNat) (hi := by omega) (hn := (by omega)) (hv := (by first | assumption | exact g1.2 _ _ _ rfl | exact w2 | exact w3 | exact n2 | exact n3 | exact eA | exact eB)) (k := ?_)
  refine r_aload_n hm rfl (k := ?_)
  refine r_getR (hm := hm) (hf := rfl) (hd := rfl) (hs := (by first | assumption | exact (g1.1 _).trans rfl)) (hv := (by first | assumption | exact g1.2 _ _ _ rfl | exact w2 | exact w3 | exact n2 | exact n3 | exact eA | exact eB)) (k := ?_)
  refine r_iload_n hm rfl (k := ?_)
  refine r_iald (hm := hm) (hf := rfl) (hs := (by first | assumption | exact (g1.1 _).trans rfl)) (kk := i) (hi := by omega) (hn := (by omega)) (hv := (by first | assumption | exact g1.2 _ _ _ rfl | exact w2 | exact w3 | exact n2 | exact n3 | exact eA | exact eB)) (k := ?_)
  refine r_icmp_ne (t := 30) hm rfl rfl (fun c12 => ?_) (fun c12 => ?_)
  · refine r_iconst hm rfl (k := ?_)
    refine r_goto (t := 35) hm rfl (k := ?_)
    refine r_istore_n hm rfl (k := ?_)
    refine r_iconst hm rfl (k := ?_)
    refine r_istore hm rfl (k := ?_)
    suffices LP : ∀ (d k : Nat) (b : Int), (k : Int) + (d : Int) = nLen x i → ((b = 1 ∧ ¬ lkn x y i q = true) ∨ (b = 0 ∧ nLen y q = nLen x i ∧ nOwn y q = nOwn x i ∧ ∀ k2, k2 < k → nRow y q k2 = nRow x i k2)) → RN 225 39 [some (.inr (.inr (some 1085))), some (.inl ((y.2.1 0 q).toNat : Int)), some (.inl (i : Int)), some (.inl b), some (.inl (k : Int))] [] h 0 0 (fun v h2 => h2 = h ∧ v = some (.inl (if lkn x y i q = true then 0 else 1))) from LP (nLen x i).toNat 0 _ (by omega) (Or.inl ⟨rfl, nlk (by omega)⟩)
    refine fun d => Nat.strongRecOn d (fun d ih => ?_)
    intro k b hd hb
    refine r_iload hm rfl (k := ?_)
    refine r_aload_n hm rfl (k := ?_)
    refine r_getR (hm := hm) (hf := rfl) (hd := rfl) (hs := (by first | assumption | exact (g1.1 _).trans rfl)) (hv := (by first | assumption | exact g1.2 _ _ _ rfl | exact w2 | exact w3 | exact n2 | exact n3 | exact eA | exact eB)) (k := ?_)
    refine r_iload_n hm rfl (k := ?_)
    refine r_iald (hm := hm) (hf := rfl) (hs := (by first | assumption | exact (g1.1 _).trans rfl)) (kk := i) (hi := by omega) (hn := (by omega)) (hv := (by first | assumption | exact g1.2 _ _ _ rfl | exact w2 | exact w3 | exact n2 | exact n3 | exact eA | exact eB)) (k := ?_)
    refine r_icmp_ge (t := 91) hm rfl rfl (fun c47 => ?_) (fun c47 => ?_)
    · refine r_iload_n hm rfl (k := ?_)
      refine r_ireturn hm rfl rfl (by first | rfl | (rcases hb with hb | hb <;> rw [hb.1] <;> rfl)) (Nat.le_of_ble_eq_true rfl) (Nat.le_of_ble_eq_true rfl) ?_
      refine ⟨rfl, ?_⟩
      rcases hb with z | z
      · rw [if_neg z.2, z.1]
      · rw [if_pos (mkl z.2.1 z.2.2.1 (fun k2 hk2 => z.2.2.2 k2 (by omega))), z.1]
    · refine r_iload_n hm rfl (k := ?_)
      refine r_if_ne (t := 79) hm rfl rfl (fun c51 => ?_) (fun c51 => ?_)
      · refine r_iconst hm rfl (k := ?_)
        refine r_goto (t := 84) hm rfl (k := ?_)
        refine r_istore_n hm rfl (k := ?_)
        refine r_iinc hm rfl (hr := (by omega)) (k := ?_)
        refine r_goto (t := 39) hm rfl (k := ?_)
        exact ih (d - 1) (by omega) (k + 1) 1 (by omega) (Or.inl ⟨rfl, by rcases hb with z | z; exact z.2; omega⟩)
      · have eA := w5 k (by omega) (by rcases hb with z | z; (exfalso; omega); omega)
        have eB := n5 k (by omega) (by omega)
        refine r_aload_n hm rfl (k := ?_)
        refine r_getR (hm := hm) (hf := rfl) (hd := rfl) (hs := (by first | assumption | exact (g1.1 _).trans rfl)) (hv := (by first | assumption | exact g1.2 _ _ _ rfl | exact w2 | exact w3 | exact n2 | exact n3 | exact eA | exact eB)) (k := ?_)
        refine r_iconst hm rfl (k := ?_)
        refine r_iload_n hm rfl (k := ?_)
        refine r_imul hm rfl (hr := (by omega)) (k := ?_)
        refine r_iload hm rfl (k := ?_)
        refine r_iadd hm rfl (hr := (by omega)) (k := ?_)
        refine r_iald (hm := hm) (hf := rfl) (hs := (by first | assumption | exact (g1.1 _).trans rfl)) (kk := 4 * (y.2.1 0 q).toNat + k) (hi := by omega) (hn := (by omega)) (hv := (by first | assumption | exact g1.2 _ _ _ rfl | exact w2 | exact w3 | exact n2 | exact n3 | exact eA | exact eB)) (k := ?_)
        refine r_aload_n hm rfl (k := ?_)
        refine r_getR (hm := hm) (hf := rfl) (hd := rfl) (hs := (by first | assumption | exact (g1.1 _).trans rfl)) (hv := (by first | assumption | exact g1.2 _ _ _ rfl | exact w2 | exact w3 | exact n2 | exact n3 | exact eA | exact eB)) (k := ?_)
        refine r_iconst hm rfl (k := ?_)
        refine r_iload_n hm rfl (k := ?_)
        refine r_imul hm rfl (hr := (by omega)) (k := ?_)
        refine r_iload hm rfl (k := ?_)
        refine r_iadd hm rfl (hr := (by omega)) (k := ?_)
        refine r_iald (hm := hm) (hf := rfl) (hs := (by first | assumption | exact (g1.1 _).trans rfl)) (kk := 4 * i + k) (hi := by omega) (hn := (by omega)) (hv := (by first | assumption | exact g1.2 _ _ _ rfl | exact w2 | exact w3 | exact n2 | exact n3 | exact eA | exact eB)) (k := ?_)
        refine r_icmp_eq (t := 83) hm rfl rfl (fun c76 => ?_) (fun c76 => ?_)
        · refine r_iconst hm rfl (k := ?_)
          refine r_istore_n hm rfl (k := ?_)
          refine r_iinc hm rfl (hr := (by omega)) (k := ?_)
          refine r_goto (t := 39) hm rfl (k := ?_)
          rcases hb with z | z
          · exfalso; omega
          · refine ih (d - 1) (by omega) (k + 1) 0 (by omega) (Or.inr ⟨rfl, z.2.1, z.2.2.1, fun k2 hk2 => ?_⟩)
            by_cases e2 : k2 = k
            · rw [e2]; omega
            · exact z.2.2.2 k2 (by omega)
        · refine r_iconst hm rfl (k := ?_)
          refine r_goto (t := 84) hm rfl (k := ?_)
          refine r_istore_n hm rfl (k := ?_)
          refine r_iinc hm rfl (hr := (by omega)) (k := ?_)
          refine r_goto (t := 39) hm rfl (k := ?_)
          exact ih (d - 1) (by omega) (k + 1) 1 (by omega) (Or.inl ⟨rfl, fun z => by have z2 := lk4 z k (by omega); omega⟩)
  · refine r_aload_n hm rfl (k := ?_)
    refine r_getR (hm := hm) (hf := rfl) (hd := rfl) (hs := (by first | assumption | exact (g1.1 _).trans rfl)) (hv := (by first | assumption | exact g1.2 _ _ _ rfl | exact w2 | exact w3 | exact n2 | exact n3 | exact eA | exact eB)) (k := ?_)
    refine r_iload_n hm rfl (k := ?_)
    refine r_iald (hm := hm) (hf := rfl) (hs := (by first | assumption | exact (g1.1 _).trans rfl)) (hi := rfl) (hn := (by omega)) (hv := (by first | assumption | exact g1.2 _ _ _ rfl | exact w2 | exact w3 | exact n2 | exact n3 | exact eA | exact eB)) (k := ?_)
    refine r_aload_n hm rfl (k := ?_)
    refine r_getR (hm := hm) (hf := rfl) (hd := rfl) (hs := (by first | assumption | exact (g1.1 _).trans rfl)) (hv := (by first | assumption | exact g1.2 _ _ _ rfl | exact w2 | exact w3 | exact n2 | exact n3 | exact eA | exact eB)) (k := ?_)
    refine r_iload_n hm rfl (k := ?_)
    refine r_iald (hm := hm) (hf := rfl) (hs := (by first | assumption | exact (g1.1 _).trans rfl)) (kk := i) (hi := by omega) (hn := (by omega)) (hv := (by first | assumption | exact g1.2 _ _ _ rfl | exact w2 | exact w3 | exact n2 | exact n3 | exact eA | exact eB)) (k := ?_)
    refine r_icmp_eq (t := 34) hm rfl rfl (fun c27 => ?_) (fun c27 => ?_)
    · refine r_iconst hm rfl (k := ?_)
      refine r_istore_n hm rfl (k := ?_)
      refine r_iconst hm rfl (k := ?_)
      refine r_istore hm rfl (k := ?_)
      suffices LP : ∀ (d k : Nat) (b : Int), (k : Int) + (d : Int) = nLen x i → ((b = 1 ∧ ¬ lkn x y i q = true) ∨ (b = 0 ∧ nLen y q = nLen x i ∧ nOwn y q = nOwn x i ∧ ∀ k2, k2 < k → nRow y q k2 = nRow x i k2)) → RN 225 39 [some (.inr (.inr (some 1085))), some (.inl ((y.2.1 0 q).toNat : Int)), some (.inl (i : Int)), some (.inl b), some (.inl (k : Int))] [] h 0 0 (fun v h2 => h2 = h ∧ v = some (.inl (if lkn x y i q = true then 0 else 1))) from LP (nLen x i).toNat 0 _ (by omega) (Or.inr ⟨rfl, by omega, by omega, fun k2 hk2 => absurd hk2 (Nat.not_lt_zero _)⟩)
      refine fun d => Nat.strongRecOn d (fun d ih => ?_)
      intro k b hd hb
      refine r_iload hm rfl (k := ?_)
      refine r_aload_n hm rfl (k := ?_)
      refine r_getR (hm := hm) (hf := rfl) (hd := rfl) (hs := (by first | assumption | exact (g1.1 _).trans rfl)) (hv := (by first | assumption | exact g1.2 _ _ _ rfl | exact w2 | exact w3 | exact n2 | exact n3 | exact eA | exact eB)) (k := ?_)
      refine r_iload_n hm rfl (k := ?_)
      refine r_iald (hm := hm) (hf := rfl) (hs := (by first | assumption | exact (g1.1 _).trans rfl)) (kk := i) (hi := by omega) (hn := (by omega)) (hv := (by first | assumption | exact g1.2 _ _ _ rfl | exact w2 | exact w3 | exact n2 | exact n3 | exact eA | exact eB)) (k := ?_)
      refine r_icmp_ge (t := 91) hm rfl rfl (fun c47 => ?_) (fun c47 => ?_)
      · refine r_iload_n hm rfl (k := ?_)
        refine r_ireturn hm rfl rfl (by first | rfl | (rcases hb with hb | hb <;> rw [hb.1] <;> rfl)) (Nat.le_of_ble_eq_true rfl) (Nat.le_of_ble_eq_true rfl) ?_
        refine ⟨rfl, ?_⟩
        rcases hb with z | z
        · rw [if_neg z.2, z.1]
        · rw [if_pos (mkl z.2.1 z.2.2.1 (fun k2 hk2 => z.2.2.2 k2 (by omega))), z.1]
      · refine r_iload_n hm rfl (k := ?_)
        refine r_if_ne (t := 79) hm rfl rfl (fun c51 => ?_) (fun c51 => ?_)
        · refine r_iconst hm rfl (k := ?_)
          refine r_goto (t := 84) hm rfl (k := ?_)
          refine r_istore_n hm rfl (k := ?_)
          refine r_iinc hm rfl (hr := (by omega)) (k := ?_)
          refine r_goto (t := 39) hm rfl (k := ?_)
          exact ih (d - 1) (by omega) (k + 1) 1 (by omega) (Or.inl ⟨rfl, by rcases hb with z | z; exact z.2; omega⟩)
        · have eA := w5 k (by omega) (by rcases hb with z | z; (exfalso; omega); omega)
          have eB := n5 k (by omega) (by omega)
          refine r_aload_n hm rfl (k := ?_)
          refine r_getR (hm := hm) (hf := rfl) (hd := rfl) (hs := (by first | assumption | exact (g1.1 _).trans rfl)) (hv := (by first | assumption | exact g1.2 _ _ _ rfl | exact w2 | exact w3 | exact n2 | exact n3 | exact eA | exact eB)) (k := ?_)
          refine r_iconst hm rfl (k := ?_)
          refine r_iload_n hm rfl (k := ?_)
          refine r_imul hm rfl (hr := (by omega)) (k := ?_)
          refine r_iload hm rfl (k := ?_)
          refine r_iadd hm rfl (hr := (by omega)) (k := ?_)
          refine r_iald (hm := hm) (hf := rfl) (hs := (by first | assumption | exact (g1.1 _).trans rfl)) (kk := 4 * (y.2.1 0 q).toNat + k) (hi := by omega) (hn := (by omega)) (hv := (by first | assumption | exact g1.2 _ _ _ rfl | exact w2 | exact w3 | exact n2 | exact n3 | exact eA | exact eB)) (k := ?_)
          refine r_aload_n hm rfl (k := ?_)
          refine r_getR (hm := hm) (hf := rfl) (hd := rfl) (hs := (by first | assumption | exact (g1.1 _).trans rfl)) (hv := (by first | assumption | exact g1.2 _ _ _ rfl | exact w2 | exact w3 | exact n2 | exact n3 | exact eA | exact eB)) (k := ?_)
          refine r_iconst hm rfl (k := ?_)
          refine r_iload_n hm rfl (k := ?_)
          refine r_imul hm rfl (hr := (by omega)) (k := ?_)
          refine r_iload hm rfl (k := ?_)
          refine r_iadd hm rfl (hr := (by omega)) (k := ?_)
          refine r_iald (hm := hm) (hf := rfl) (hs := (by first | assumption | exact (g1.1 _).trans rfl)) (kk := 4 * i + k) (hi := by omega) (hn := (by omega)) (hv := (by first | assumption | exact g1.2 _ _ _ rfl | exact w2 | exact w3 | exact n2 | exact n3 | exact eA | exact eB)) (k := ?_)
          refine r_icmp_eq (t := 83) hm rfl rfl (fun c76 => ?_) (fun c76 => ?_)
          · refine r_iconst hm rfl (k := ?_)
            refine r_istore_n hm rfl (k := ?_)
            refine r_iinc hm rfl (hr := (by omega)) (k := ?_)
            refine r_goto (t := 39) hm rfl (k := ?_)
            rcases hb with z | z
            · exfalso; omega
            · refine ih (d - 1) (by omega) (k + 1) 0 (by omega) (Or.inr ⟨rfl, z.2.1, z.2.2.1, fun k2 hk2 => ?_⟩)
              by_cases e2 : k2 = k
              · rw [e2]; omega
              · exact z.2.2.2 k2 (by omega)
          · refine r_iconst hm rfl (k := ?_)
            refine r_goto (t := 84) hm rfl (k := ?_)
            refine r_istore_n hm rfl (k := ?_)
            refine r_iinc hm rfl (hr := (by omega)) (k := ?_)
            refine r_goto (t := 39) hm rfl (k := ?_)
            exact ih (d - 1) (by omega) (k + 1) 1 (by omega) (Or.inl ⟨rfl, fun z => by have z2 := lk4 z k (by omega); omega⟩)
    · refine r_iconst hm rfl (k := ?_)
      refine r_goto (t := 35) hm rfl (k := ?_)
      refine r_istore_n hm rfl (k := ?_)
      refine r_iconst hm rfl (k := ?_)
      refine r_istore hm rfl (k := ?_)
      suffices LP : ∀ (d k : Nat) (b : Int), (k : Int) + (d : Int) = nLen x i → ((b = 1 ∧ ¬ lkn x y i q = true) ∨ (b = 0 ∧ nLen y q = nLen x i ∧ nOwn y q = nOwn x i ∧ ∀ k2, k2 < k → nRow y q k2 = nRow x i k2)) → RN 225 39 [some (.inr (.inr (some 1085))), some (.inl ((y.2.1 0 q).toNat : Int)), some (.inl (i : Int)), some (.inl b), some (.inl (k : Int))] [] h 0 0 (fun v h2 => h2 = h ∧ v = some (.inl (if lkn x y i q = true then 0 else 1))) from LP (nLen x i).toNat 0 _ (by omega) (Or.inl ⟨rfl, nlk (by omega)⟩)
      refine fun d => Nat.strongRecOn d (fun d ih => ?_)
      intro k b hd hb
      refine r_iload hm rfl (k := ?_)
      refine r_aload_n hm rfl (k := ?_)
      refine r_getR (hm := hm) (hf := rfl) (hd := rfl) (hs := (by first | assumption | exact (g1.1 _).trans rfl)) (hv := (by first | assumption | exact g1.2 _ _ _ rfl | exact w2 | exact w3 | exact n2 | exact n3 | exact eA | exact eB)) (k := ?_)
      refine r_iload_n hm rfl (k := ?_)
      refine r_iald (hm := hm) (hf := rfl) (hs := (by first | assumption | exact (g1.1 _).trans rfl)) (kk := i) (hi := by omega) (hn := (by omega)) (hv := (by first | assumption | exact g1.2 _ _ _ rfl | exact w2 | exact w3 | exact n2 | exact n3 | exact eA | exact eB)) (k := ?_)
      refine r_icmp_ge (t := 91) hm rfl rfl (fun c47 => ?_) (fun c47 => ?_)
      · refine r_iload_n hm rfl (k := ?_)
        refine r_ireturn hm rfl rfl (by first | rfl | (rcases hb with hb | hb <;> rw [hb.1] <;> rfl)) (Nat.le_of_ble_eq_true rfl) (Nat.le_of_ble_eq_true rfl) ?_
        refine ⟨rfl, ?_⟩
        rcases hb with z | z
        · rw [if_neg z.2, z.1]
        · rw [if_pos (mkl z.2.1 z.2.2.1 (fun k2 hk2 => z.2.2.2 k2 (by omega))), z.1]
      · refine r_iload_n hm rfl (k := ?_)
        refine r_if_ne (t := 79) hm rfl rfl (fun c51 => ?_) (fun c51 => ?_)
        · refine r_iconst hm rfl (k := ?_)
          refine r_goto (t := 84) hm rfl (k := ?_)
          refine r_istore_n hm rfl (k := ?_)
          refine r_iinc hm rfl (hr := (by omega)) (k := ?_)
          refine r_goto (t := 39) hm rfl (k := ?_)
          exact ih (d - 1) (by omega) (k + 1) 1 (by omega) (Or.inl ⟨rfl, by rcases hb with z | z; exact z.2; omega⟩)
        · have eA := w5 k (by omega) (by rcases hb with z | z; (exfalso; omega); omega)
          have eB := n5 k (by omega) (by omega)
          refine r_aload_n hm rfl (k := ?_)
          refine r_getR (hm := hm) (hf := rfl) (hd := rfl) (hs := (by first | assumption | exact (g1.1 _).trans rfl)) (hv := (by first | assumption | exact g1.2 _ _ _ rfl | exact w2 | exact w3 | exact n2 | exact n3 | exact eA | exact eB)) (k := ?_)
          refine r_iconst hm rfl (k := ?_)
          refine r_iload_n hm rfl (k := ?_)
          refine r_imul hm rfl (hr := (by omega)) (k := ?_)
          refine r_iload hm rfl (k := ?_)
          refine r_iadd hm rfl (hr := (by omega)) (k := ?_)
          refine r_iald (hm := hm) (hf := rfl) (hs := (by first | assumption | exact (g1.1 _).trans rfl)) (kk := 4 * (y.2.1 0 q).toNat + k) (hi := by omega) (hn := (by omega)) (hv := (by first | assumption | exact g1.2 _ _ _ rfl | exact w2 | exact w3 | exact n2 | exact n3 | exact eA | exact eB)) (k := ?_)
          refine r_aload_n hm rfl (k := ?_)
          refine r_getR (hm := hm) (hf := rfl) (hd := rfl) (hs := (by first | assumption | exact (g1.1 _).trans rfl)) (hv := (by first | assumption | exact g1.2 _ _ _ rfl | exact w2 | exact w3 | exact n2 | exact n3 | exact eA | exact eB)) (k := ?_)
          refine r_iconst hm rfl (k := ?_)
          refine r_iload_n hm rfl (k := ?_)
          refine r_imul hm rfl (hr := (by omega)) (k := ?_)
          refine r_iload hm rfl (k := ?_)
          refine r_iadd hm rfl (hr := (by omega)) (k := ?_)
          refine r_iald (hm := hm) (hf := rfl) (hs := (by first | assumption | exact (g1.1 _).trans rfl)) (kk := 4 * i + k) (hi := by omega) (hn := (by omega)) (hv := (by first | assumption | exact g1.2 _ _ _ rfl | exact w2 | exact w3 | exact n2 | exact n3 | exact eA | exact eB)) (k := ?_)
          refine r_icmp_eq (t := 83) hm rfl rfl (fun c76 => ?_) (fun c76 => ?_)
          · refine r_iconst hm rfl (k := ?_)
            refine r_istore_n hm rfl (k := ?_)
            refine r_iinc hm rfl (hr := (by omega)) (k := ?_)
            refine r_goto (t := 39) hm rfl (k := ?_)
            rcases hb with z | z
            · exfalso; omega
            · refine ih (d - 1) (by omega) (k + 1) 0 (by omega) (Or.inr ⟨rfl, z.2.1, z.2.2.1, fun k2 hk2 => ?_⟩)
              by_cases e2 : k2 = k
              · rw [e2]; omega
              · exact z.2.2.2 k2 (by omega)
          · refine r_iconst hm rfl (k := ?_)
            refine r_goto (t := 84) hm rfl (k := ?_)
            refine r_istore_n hm rfl (k := ?_)
            refine r_iinc hm rfl (hr := (by omega)) (k := ?_)
            refine r_goto (t := 39) hm rfl (k := ?_)
            exact ih (d - 1) (by omega) (k + 1) 1 (by omega) (Or.inl ⟨rfl, fun z => by have z2 := lk4 z k (by omega); omega⟩)
