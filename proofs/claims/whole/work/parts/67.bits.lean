/-! sections as bits of a long -/
def tb (w : Int64) (v : Nat) : Bool := w.toBitVec.getLsbD v
def one9 (t : Nat) : Int64 := (1 : Int64) <<< ((Int32.ofInt (t : Int)).toInt64 &&& 63)
theorem tb_or {a b : Int64} {v : Nat} : tb (a ||| b) v = (tb a v || tb b v) := by unfold tb; rw [Int64.toBitVec_or, BitVec.getLsbD_or]
theorem tb_and {a b : Int64} {v : Nat} : tb (a &&& b) v = (tb a v && tb b v) := by unfold tb; rw [Int64.toBitVec_and, BitVec.getLsbD_and]
theorem tb_one {t v : Nat} (ht : t < 61) (hv : v < 64) : tb (one9 t) v = decide (v = t) := by
  have h : ∀ t, t < 61 → ∀ v, v < 64 → tb (one9 t) v = decide (v = t) := by decide +kernel
  exact h t ht v hv
theorem tb_zero {v : Nat} : tb 0 v = false := by unfold tb; exact BitVec.getLsbD_zero
theorem tb_ext {a b : Int64} (h : ∀ v, v < 64 → tb a v = tb b v) : a = b := Int64.toBitVec_inj.mp (BitVec.eq_of_getLsbD_eq h)
theorem lg_eq0 {a b : Int64} : (lg_cmp a b).toInt = 0 ↔ a = b := by
  have h1 := @lg_lt a b
  have h2 := @lg_gt a b
  constructor
  · intro h
    apply Int64.toInt_inj.mp
    omega
  · intro h
    have : a.toInt = b.toInt := by rw [h]
    omega
theorem and_one {r : Int64} {t : Nat} (ht : t < 61) : (r &&& one9 t = 0) ↔ tb r t = false := by
  constructor
  · intro h
    have e : tb (r &&& one9 t) t = tb 0 t := by rw [h]
    rw [tb_and, tb_one ht (by omega), tb_zero] at e
    simpa using e
  · intro h
    apply tb_ext
    intro v hv
    rw [tb_and, tb_one ht hv, tb_zero]
    by_cases e : v = t
    · rw [e, h]; rfl
    · simp [e]
theorem ush_bit {x : Int64} {s : Nat} (hs : s < 61) : ((x.toUInt64 >>> ((Int32.ofInt (s : Int)).toInt64.toUInt64 &&& Int64.toUInt64 63)).toInt64 &&& 1 = 0) ↔ tb x s = false := by
  have ha : ∀ s, s < 61 → ((Int32.ofInt ((s : Nat) : Int)).toInt64.toUInt64 &&& Int64.toUInt64 63) = UInt64.ofNat s := by decide +kernel
  rw [ha s hs]
  have hb : ∀ s, s < 61 → ((UInt64.ofNat s).toBitVec % 64).toNat = s := by decide +kernel
  have hc : ∀ v, tb ((x.toUInt64 >>> UInt64.ofNat s).toInt64) v = x.toBitVec.getLsbD (s + v) := fun v => by
    unfold tb
    rw [UInt64.toBitVec_toInt64, UInt64.toBitVec_shiftRight, BitVec.ushiftRight_eq', BitVec.getLsbD_ushiftRight, hb s hs]
    rfl
  have hd : ∀ v, v < 64 → tb 1 v = decide (v = 0) := by decide +kernel
  constructor
  · intro h
    have e : tb ((x.toUInt64 >>> UInt64.ofNat s).toInt64 &&& 1) 0 = tb 0 0 := by rw [h]
    rw [tb_and, hc, hd 0 (by omega), tb_zero] at e
    unfold tb
    simpa using e
  · intro h
    apply tb_ext
    intro v hv
    rw [tb_and, hc, hd v hv, tb_zero]
    by_cases e : v = 0
    · subst e
      unfold tb at h
      rw [Nat.add_zero, h]; rfl
    · simp [e]
theorem an_last {p : Nat → Bool} : ∀ (d i : Nat), an p i (d + 1) = (an p i d || p (i + d)) := by
  intro d
  induction d with
  | zero => intro i; simp [an]
  | succ d ih =>
    intro i
    have h1 := ih (i + 1)
    rw [show an p i (d + 1 + 1) = (p i || an p (i + 1) (d + 1)) from rfl, h1, show an p i (d + 1) = (p i || an p (i + 1) d) from rfl, Bool.or_assoc, show i + 1 + d = i + (d + 1) by omega]
set_option maxRecDepth 8000 in
theorem c_oneStepOn {h : Hp} {b : Nat} {r : Int64} (hs : h.1[b]? = some (102, 61)) : RN 113 0 [some (.inr (.inr (some 344))), some (.inr (.inl r)), none, some (.inr (.inr (some b))), none, none, none] [] h 0 0 (fun v h2 => h2 = h ∧ ∃ f, v = some (.inr (.inl f)) ∧ ∀ u, u < 64 → tb f u = (tb r u || an (fun s => tb r s && tb (h.2.2.2 b s) u) 0 61)) := by
  have hm : mrec 113 = some nM113 := rfl
  refine r_lload_n hm rfl (k := ?_)
  refine r_lstore hm rfl (k := ?_)
  refine r_iconst hm rfl (k := ?_)
  refine r_istore hm rfl (k := ?_)
  suffices LP : ∀ (d s : Nat) (f : Int64), s + d = 61 → (∀ u, u < 64 → tb f u = (tb r u || an (fun s => tb r s && tb (h.2.2.2 b s) u) 0 s)) → RN 113 6 [some (.inr (.inr (some 344))), some (.inr (.inl r)), none, some (.inr (.inr (some b))), some (.inr (.inl f)), none, some (.inl (s : Int))] [] h 0 0 (fun v h2 => h2 = h ∧ ∃ f, v = some (.inr (.inl f)) ∧ ∀ u, u < 64 → tb f u = (tb r u || an (fun s => tb r s && tb (h.2.2.2 b s) u) 0 61)) from LP 61 0 r (by omega) (fun u hu => by simp [an])
  refine fun d => Nat.strongRecOn d (fun d ih => ?_)
  intro s f hd ef
  refine r_iload hm rfl (k := ?_)
  refine r_bipush hm rfl (k := ?_)
  refine r_icmp_ge (t := 39) hm rfl rfl (fun c10 => ?_) (fun c10 => ?_)
  · refine r_lload hm rfl (k := ?_)
    refine r_lreturn hm rfl rfl (Nat.le_of_ble_eq_true rfl) (Nat.le_of_ble_eq_true rfl) ?_
    have es : s = 61 := by omega
    subst es
    exact ⟨rfl, f, rfl, ef⟩
  · refine r_lload_n hm rfl (k := ?_)
    refine r_iload hm rfl (k := ?_)
    refine r_lushr hm rfl (k := ?_)
    refine r_lconst hm rfl (k := ?_)
    refine r_land hm rfl (k := ?_)
    refine r_lconst hm rfl (k := ?_)
    refine r_lcmp hm rfl (k := ?_)
    refine r_if_eq (t := 33) hm rfl rfl (fun c21 => ?_) (fun c21 => ?_)
    · refine r_iinc hm rfl (hr := (by omega)) (k := ?_)
      refine r_goto (t := 6) hm rfl (k := ?_)
      have hz : tb r s = false := (ush_bit (by omega)).mp (lg_eq0.mp c21)
      refine ih (d - 1) (by omega) (s + 1) f (by omega) (fun u hu => ?_)
      rw [an_last, Nat.zero_add, hz, Bool.false_and, Bool.or_false]
      exact ef u hu
    · refine r_lload hm rfl (k := ?_)
      refine r_aload_n hm rfl (k := ?_)
      refine r_iload hm rfl (k := ?_)
      refine r_lald (hm := hm) (hf := rfl) (hs := (by exact hs)) (hi := rfl) (hn := (by omega)) (hv := (by first | exact rfl)) (k := ?_)
      refine r_lor hm rfl (k := ?_)
      refine r_lstore hm rfl (k := ?_)
      refine r_iinc hm rfl (hr := (by omega)) (k := ?_)
      refine r_goto (t := 6) hm rfl (k := ?_)
      have hz : tb r s = true := by
        have hn : ¬ tb r s = false := fun z => c21 (lg_eq0.mpr ((ush_bit (by omega)).mpr z))
        simpa using hn
      refine ih (d - 1) (by omega) (s + 1) _ (by omega) (fun u hu => ?_)
      rw [an_last, Nat.zero_add, hz, Bool.true_and, tb_or, ef u hu, Bool.or_assoc]
