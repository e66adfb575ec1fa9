/-! sections: the class -/
/-- what is reached from src in n steps -/
def rcN (e : Nat → Nat → Bool) (src : Nat) : Nat → Nat → Bool
  | 0, v => decide (v = src)
  | n + 1, v => rcN e src n v || an (fun s => rcN e src n s && e s v) 0 61
def dsN (e : Nat → Nat → Bool) (src goal : Nat) : Nat → Nat → Int
  | 0, _ => -1
  | d + 1, n => if rcN e src n goal = true then (n : Int) else dsN e src goal d (n + 1)
theorem dsN_go {e : Nat → Nat → Bool} {src goal d n : Nat} (h : 0 < d) : dsN e src goal d n = if rcN e src n goal = true then (n : Int) else dsN e src goal (d - 1) (n + 1) := by
  obtain ⟨q, rfl⟩ : ∃ q, d = q + 1 := ⟨d - 1, by omega⟩
  rfl
theorem rcN_fix {e : Nat → Nat → Bool} {src n : Nat} (h : ∀ v, v < 64 → rcN e src (n + 1) v = rcN e src n v) (he : ∀ s v, 64 ≤ v → e s v = false) (hs : src < 64) : ∀ m v, rcN e src (n + m) v = rcN e src n v := by
  have hb : ∀ n v, 64 ≤ v → rcN e src n v = false := by
    intro n
    induction n with
    | zero => intro v hv; exact decide_eq_false (by omega)
    | succ n ih =>
      intro v hv
      show (rcN e src n v || an (fun s => rcN e src n s && e s v) 0 61) = false
      rw [ih v hv, Bool.false_or, an_false]
      intro s _ _
      rw [he s v hv, Bool.and_false]
  have h2 : ∀ v, rcN e src (n + 1) v = rcN e src n v := fun v => by
    by_cases hv : v < 64
    · exact h v hv
    · rw [hb _ v (by omega), hb _ v (by omega)]
  have h3 : rcN e src (n + 1) = rcN e src n := funext h2
  intro m
  induction m with
  | zero => intro v; rfl
  | succ m ih =>
    intro v
    have h4 : rcN e src (n + m) = rcN e src n := funext ih
    show (rcN e src (n + m) v || an (fun s => rcN e src (n + m) s && e s v) 0 61) = _
    rw [h4]
    exact h2 v
/-- item i calls an item: edge from section u to section v -/
def edk (x : Tx) (i k u v : Nat) : Bool := decide (mnt x i k ≠ -1 ∧ nSec x i + 1 = (u : Int) ∧ nSec x (mnt x i k).toNat + 1 = (v : Int))
def edg (x : Tx) (u v : Nat) : Bool := an (fun i => an (fun k => edk x i k u v) 0 (pcs x i)) 0 x.1
set_option maxRecDepth 8000 in
theorem c_fewestCalls {L : Nat} {h : Hp} {src goal : Nat} {e : Nat → Nat → Bool} (g : GG L h) (hs : src < 61) (hg : goal < 61) (he : ∀ s v, s < 61 → v < 64 → tb (h.2.2.2 345 s) v = e s v) : RN 112 0 [some (.inr (.inr (some 344))), some (.inl ((src : Int) - 1)), some (.inl ((goal : Int) - 1)), none, none, none, none, none] [] h 0 0 (fun v h2 => h2 = h ∧ v = some (.inl (dsN e src goal 62 0))) := by
  have hm : mrec 112 = some nM112 := rfl
  refine r_lconst hm rfl (k := ?_)
  refine r_iload_n hm rfl (k := ?_)
  refine r_iconst hm rfl (k := ?_)
  refine r_iadd hm rfl (hr := (by omega)) (k := ?_)
  refine r_lshl hm rfl (k := ?_)
  refine r_lstore_n hm rfl (k := ?_)
  refine r_lconst hm rfl (k := ?_)
  refine r_iload_n hm rfl (k := ?_)
  refine r_iconst hm rfl (k := ?_)
  refine r_iadd hm rfl (hr := (by omega)) (k := ?_)
  refine r_lshl hm rfl (k := ?_)
  refine r_lstore hm rfl (k := ?_)
  refine r_iconst hm rfl (k := ?_)
  refine r_istore hm rfl (k := ?_)
  suffices LP : ∀ (d n : Nat) (r : Int64), n + d = 62 → (∀ v, v < 64 → tb r v = rcN e src n v) → dsN e src goal d n = dsN e src goal 62 0 → RN 112 16 [some (.inr (.inr (some 344))), some (.inl ((src : Int) - 1)), some (.inl ((goal : Int) - 1)), some (.inr (.inl r)), none, some (.inr (.inl (one9 goal))), none, some (.inl (n : Int))] [] h 0 0 (fun v h2 => h2 = h ∧ v = some (.inl (dsN e src goal 62 0))) from by
    have b9 := LP 62 0 (one9 src) (by omega) (fun v hv => tb_one hs hv) rfl
    unfold one9 at b9
    rw [show (src : Int) = (src : Int) - 1 + 1 by omega, show (goal : Int) = (goal : Int) - 1 + 1 by omega] at b9
    rw [show (src : Int) - 1 + 1 - 1 = (src : Int) - 1 by omega, show (goal : Int) - 1 + 1 - 1 = (goal : Int) - 1 by omega] at b9
    exact b9
  refine fun d => Nat.strongRecOn d (fun d ih => ?_)
  intro n r hd er hr
  refine r_iload hm rfl (k := ?_)
  refine r_bipush hm rfl (k := ?_)
  refine r_icmp_gt (t := 51) hm rfl rfl (fun c20 => ?_) (fun c20 => ?_)
  · refine r_iconst hm rfl (k := ?_)
    refine r_ireturn hm rfl rfl (by rfl) (Nat.le_of_ble_eq_true rfl) (Nat.le_of_ble_eq_true rfl) ?_
    have d0 : d = 0 := by omega
    subst d0
    exact ⟨rfl, by rw [← hr]; rfl⟩
  · refine r_lload_n hm rfl (k := ?_)
    refine r_lload hm rfl (k := ?_)
    refine r_land hm rfl (k := ?_)
    refine r_lconst hm rfl (k := ?_)
    refine r_lcmp hm rfl (k := ?_)
    refine r_if_eq (t := 35) hm rfl rfl (fun c29 => ?_) (fun c29 => ?_)
    · refine r_aload_n hm rfl (k := ?_)
      refine r_lload_n hm rfl (k := ?_)
      refine r_aload_n hm rfl (k := ?_)
      refine r_getR (hm := hm) (hf := rfl) (hd := rfl) (hs := (by first | assumption | exact (g.1 _).trans rfl)) (hv := (by first | exact g.2 _ _ _ rfl)) (k := ?_)
      refine r_callv (j2 := 113) hm rfl rfl rfl rfl rfl rfl (by first | assumption | exact (g.1 _).trans rfl) (Nat.le_of_ble_eq_true rfl) (Nat.le_of_ble_eq_true rfl) rfl ⟨Nat.le_of_ble_eq_true rfl, Nat.le_of_ble_eq_true rfl, Nat.le_of_ble_eq_true rfl, Nat.le_of_ble_eq_true rfl, Nat.le_of_ble_eq_true rfl⟩ rfl (c_oneStepOn ((g.1 _).trans rfl)) (fun v9 h9 p9 => ?_)
      obtain ⟨e1, f, e2, ef⟩ := p9
      subst e2
      subst e1
      change RN 112 44 _ _ _ 0 0 _
      dsimp only [Option.toList, List.cons_append, List.nil_append]
      refine r_lstore_n hm rfl (k := ?_)
      refine r_iinc hm rfl (hr := (by omega)) (k := ?_)
      refine r_goto (t := 16) hm rfl (k := ?_)
      have hz : rcN e src n goal = false := by rw [← er goal (by omega)]; exact (and_one hg).mp (lg_eq0.mp c29)
      refine ih (d - 1) (by omega) (n + 1) f (by omega) (fun v hv => ?_) (by rw [← hr, dsN_go (d := d) (by omega), if_neg (by rw [hz]; decide)])
      rw [ef v hv, er v hv]
      show _ = (rcN e src n v || an (fun s => rcN e src n s && e s v) 0 61)
      rw [an_congr (p2 := fun s => rcN e src n s && e s v) _ _ (fun s _ hs2 => by rw [er s (by omega), he s v (by omega) hv])]
    · refine r_iload hm rfl (k := ?_)
      refine r_ireturn hm rfl rfl (by rfl) (Nat.le_of_ble_eq_true rfl) (Nat.le_of_ble_eq_true rfl) ?_
      have hz : rcN e src n goal = true := by
        have hn : ¬ tb r goal = false := fun z => c29 (lg_eq0.mpr ((and_one hg).mpr z))
        rw [er goal (by omega)] at hn
        simpa using hn
      exact ⟨rfl, by rw [← hr, dsN_go (by omega), if_pos hz]⟩
set_option maxRecDepth 8000 in
theorem c_allReached {L : Nat} {h : Hp} {src b : Nat} {r0 : Int64} {e : Nat → Nat → Bool} (g : GG L h) (hsb : h.1[b]? = some (102, 61)) (hs : src < 61) (h0 : ∀ v, v < 64 → tb r0 v = rcN e src 0 v) (heb : ∀ s v, 64 ≤ v → e s v = false) (he : ∀ s v, s < 61 → v < 64 → tb (h.2.2.2 b s) v = e s v) : RN 116 0 [some (.inr (.inr (some 344))), some (.inr (.inl r0)), none, some (.inr (.inr (some b))), none, none, none, none, none] [] h 0 0 (fun v h2 => h2 = h ∧ ∃ f, v = some (.inr (.inl f)) ∧ ∀ u, u < 64 → tb f u = rcN e src 61 u) := by
  have hm : mrec 116 = some nM116 := rfl
  refine r_lload_n hm rfl (k := ?_)
  refine r_lstore hm rfl (k := ?_)
  refine r_iconst hm rfl (k := ?_)
  refine r_istore hm rfl (k := ?_)
  suffices LP : ∀ (d n : Nat) (r : Int64) (z7 z8 : Option Vl), n + d = 61 → (∀ v, v < 64 → tb r v = rcN e src n v) → RN 116 6 [some (.inr (.inr (some 344))), some (.inr (.inl r0)), none, some (.inr (.inr (some b))), some (.inr (.inl r)), none, some (.inl (n : Int)), z7, z8] [] h 0 0 (fun v h2 => h2 = h ∧ ∃ f, v = some (.inr (.inl f)) ∧ ∀ u, u < 64 → tb f u = rcN e src 61 u) from LP 61 0 r0 _ _ (by omega) h0
  refine fun d => Nat.strongRecOn d (fun d ih => ?_)
  intro n r z7 z8 hd er
  refine r_iload hm rfl (k := ?_)
  refine r_bipush hm rfl (k := ?_)
  refine r_icmp_ge (t := 43) hm rfl rfl (fun c10 => ?_) (fun c10 => ?_)
  · refine r_lload hm rfl (k := ?_)
    refine r_lreturn hm rfl rfl (Nat.le_of_ble_eq_true rfl) (Nat.le_of_ble_eq_true rfl) ?_
    have n61 : n = 61 := by omega
    subst n61
    exact ⟨rfl, r, rfl, er⟩
  · refine r_aload_n hm rfl (k := ?_)
    refine r_lload hm rfl (k := ?_)
    refine r_aload_n hm rfl (k := ?_)
    refine r_callv (j2 := 113) hm rfl rfl rfl rfl rfl rfl (by first | assumption | exact (g.1 _).trans rfl | exact hsb) (Nat.le_of_ble_eq_true rfl) (Nat.le_of_ble_eq_true rfl) rfl ⟨Nat.le_of_ble_eq_true rfl, Nat.le_of_ble_eq_true rfl, Nat.le_of_ble_eq_true rfl, Nat.le_of_ble_eq_true rfl, Nat.le_of_ble_eq_true rfl⟩ rfl (c_oneStepOn hsb) (fun v9 h9 p9 => ?_)
    obtain ⟨e1, f, e2, ef⟩ := p9
    subst e2
    subst e1
    have ef2 : ∀ v, v < 64 → tb f v = rcN e src (n + 1) v := fun v hv => by
      rw [ef v hv, er v hv]
      show _ = (rcN e src n v || an (fun s => rcN e src n s && e s v) 0 61)
      rw [an_congr (p2 := fun s => rcN e src n s && e s v) _ _ (fun s _ hs2 => by rw [er s (by omega), he s v (by omega) hv])]
    change RN 116 20 _ _ _ 0 0 _
    dsimp only [Option.toList, List.cons_append, List.nil_append]
    refine r_lstore hm rfl (k := ?_)
    refine r_lload hm rfl (k := ?_)
    refine r_lload hm rfl (k := ?_)
    refine r_lcmp hm rfl (k := ?_)
    refine r_if_ne (t := 33) hm rfl rfl (fun c27 => ?_) (fun c27 => ?_)
    · refine r_lload hm rfl (k := ?_)
      refine r_lstore hm rfl (k := ?_)
      refine r_iinc hm rfl (hr := (by omega)) (k := ?_)
      refine r_goto (t := 6) hm rfl (k := ?_)
      exact ih (d - 1) (by omega) (n + 1) f _ _ (by omega) ef2
    · refine r_lload hm rfl (k := ?_)
      refine r_lreturn hm rfl rfl (Nat.le_of_ble_eq_true rfl) (Nat.le_of_ble_eq_true rfl) ?_
      have hfr : f = r := lg_eq0.mp (Decidable.byContradiction (fun z => c27 z))
      refine ⟨rfl, r, rfl, fun u hu => ?_⟩
      rw [er u hu]
      have := rcN_fix (e := e) (src := src) (n := n) (fun v hv => by rw [← ef2 v hv, hfr, er v hv]) heb (by omega) (61 - n) u
      rw [show n + (61 - n) = 61 by omega] at this
      exact this.symm
