/-! calls, and the whole: what the interpreter says, the machine does -/
theorem aoa_spec {s : State} {t : FieldType} (h : va_AOa t s) : ∃ comp c k, s.vm.findClass (FieldType.array t).toString = some comp ∧ (s.vm.classes.findIdx? fun (x : Class) => match x.kind with | .array component _ => component == comp | _ => false) = some c ∧ s.vm.classes[c]? = some k ∧ k.kind = .array comp (.array t) ∧ s.vm.findClass ("[" ++ (FieldType.array t).toString) = some c := by
  have h : (Cond.arrayOver (.array t)).holds #[] s none s [] = true := h
  simp only [Cond.holds, Cond.value, beq_iff_eq] at h
  cases hc : s.vm.findClass (FieldType.array t).toString with
  | none => simp [hc] at h
  | some comp =>
    simp only [hc, Option.bind_some, Option.bind_eq_some_iff, Option.map_eq_some_iff] at h
    obtain ⟨c, hi, k, hk, hb⟩ := h
    cases hkk : k.kind with
    | array component ty =>
      simp only [hkk, Bool.and_eq_true, decide_eq_true_eq] at hb
      obtain ⟨rfl, h5⟩ := hb
      have hx := Array.findIdx?_eq_some_iff_getElem.mp hi
      obtain ⟨hlt, hp, -⟩ := hx
      have hk2 : s.vm.classes[c] = k := by
        have := Array.getElem?_eq_getElem hlt
        rw [this] at hk
        exact Option.some.inj hk
      rw [hk2, hkk] at hp
      have : component = comp := by simpa using hp
      subst this
      exact ⟨component, c, k, rfl, hi, hk, hkk, h5⟩
    | _ => simp [hkk] at hb
theorem aoa_moved {t : FieldType} {u U : State} (hvm : u.vm.Alike U.vm) (h : va_AOa t u) : va_AOa t U := by
  obtain ⟨comp, c, k, h1, h2, h3, h4, h5⟩ := aoa_spec h
  obtain ⟨k', hk', he⟩ := hvm.2.2 _ _ h3
  have hi : (U.vm.classes.findIdx? fun (x : Class) => match x.kind with | .array component _ => component == comp | _ => false) = some c := by
    refine (va_idx_bare U.vm comp).symm.trans ?_
    first | rw [hvm.bare_eq] | rw [← hvm.bare_eq]
    exact (va_idx_bare u.vm comp).trans h2
  have hkind : k'.kind = .array comp (.array t) := by rw [he]; exact h4
  have f1 : U.vm.findClass (FieldType.array t).toString = some comp := by rw [hvm.findClass]; exact h1
  have f2 : U.vm.findClass ("[" ++ (FieldType.array t).toString) = some c := by rw [hvm.findClass]; exact h5
  unfold va_AOa Cond.before Cond.holds
  simp only [Cond.value]
  rw [f1, Option.bind_some]
  refine (congrArg (fun o : Option Nat => (o.bind (fun c => (U.vm.classes[c]?).map fun (k : Class) => match k.kind with | .array _ ty => decide (ty = FieldType.array t) && decide (U.vm.findClass ("[" ++ (FieldType.array t).toString) = some c) | _ => false) == some true)) hi).trans ?_
  simp [hk', hkind, f2]
theorem nst_form {w : Cond} (h : w ∈ nNst) : ∃ a i x b, w = .methodLinkNest a i x b := by
  have h2 := (List.mem_filter.mp h).2
  cases w <;> first | exact ⟨_, _, _, _, rfl⟩ | cases h2
theorem nWd_warm {ad : Nat → Nat} {s U : State} (hW : s.WarmedH U.vm) (h : nWd ad s) : nWd ad U := by
  obtain ⟨h1, h2, h3, h4, h5⟩ := h
  refine ⟨fun w hw => ?_, va_AO.moved hW.alike h2, va_AO.moved hW.alike h3, aoa_moved hW.alike h4, fun q hq => (h5 q hq).warm hW⟩
  obtain ⟨a, i, x, b, rfl⟩ := nst_form hw
  exact va_Nw.warmM hW (h1 _ hw)
theorem nWd_vm {ad : Nat → Nat} {s U : State} (hv : U.vm = s.vm) (h : nWd ad s) : nWd ad U := by
  obtain ⟨h1, h2, h3, h4, h5⟩ := h
  have hal : s.vm.Alike U.vm := by rw [hv]; exact Vm.Alike.refl _
  refine ⟨fun w hw => ?_, va_AO.moved hal h2, va_AO.moved hal h3, aoa_moved hal h4, fun q hq => (h5 q hq).same hv⟩
  obtain ⟨a, i, x, b, rfl⟩ := nst_form hw
  exact va_Nw.same rfl hv.symm (h1 _ hw)
theorem nCs_moved {fo : Option Nat} {ad : Nat → Nat} {h : Hp} {A B : Nat → Prop} {u U : State} {H H1 : Heap} (hvm : u.vm.Alike U.vm) (hq : ∀ a : Nat, a < H.size → ¬ A a → H1[a]? = H[a]?) (hAB : ∀ q, B q → A q) (w : nCs fo ad h A u H) : nCs fo ad h B U H1 := by
  obtain ⟨w1, w2, w3, w4, w5, w6, w7⟩ := w
  exact ⟨fun a n ha hn => ((va_T.moved hvm (w1 a n ha hn)).kept hq).narrow hAB, fun a n ha hn => ((va_T.moved hvm (w2 a n ha hn)).kept hq).narrow hAB, fun a n ha hn => ⟨((va_O.moved hvm (w3 a n ha hn).1).kept hq).narrow hAB, ((va_OF.moved hvm (w3 a n ha hn).2.1).kept hq).narrow hAB, ((va_OF.moved hvm (w3 a n ha hn).2.2).kept hq).narrow hAB⟩, ((va_Z.moved hvm w4).kept hq).narrow hAB, ((va_Z.moved hvm w5).kept hq).narrow hAB, ((va_Z.moved hvm w6).kept hq).narrow hAB, ((va_Z.moved hvm w7).kept hq).narrow hAB⟩
/-- what a callee's start is told of the heap -/
def nV (fo : Option Nat) (E : Nat → ClassId) (D : va_G) (ad : Nat → Nat) (h : Hp) (sz : Nat) (U : State) : Prop :=
  U.heap.size = sz ∧ va_P D nCl (nWs E ad h) U.heap ∧ va_K D nCl (nTy E) U ∧ va_D (fun _ => True) (nWs E ad h) ∧ nCs fo ad h (va_A (nWs E ad h) sz) U U.heap ∧ nWd ad U ∧ okH h
/-- what a callee's end tells -/
def nQ (fo : Option Nat) (E : Nat → ClassId) (D : va_G) (ad : Nat → Nat) (h : Hp) (sz : Nat) (Q : Option Vl → Hp → Prop) : Array Value → State → Outcome → State → Prop := fun _ st o t =>
  ∃ (v : Option Vl) (h2 : Hp) (ad2 : Nat → Nat), o = .returned (v.map (cv ad2 fo)) ∧ Q v h2 ∧ (∀ x, v = some x → okV h2.1.length x) ∧ h.1.length ≤ h2.1.length ∧ (∀ a, a < h.1.length → ad2 a = ad a) ∧ va_P D nCl (nWs E ad2 h2) t.heap ∧ va_D (va_A (nWs E ad h) sz) (nWs E ad2 h2) ∧ okH h2 ∧ va_F (va_A (nWs E ad h) sz) st t
def rmOf (r : MR) : Room := { frames := r.2.2.2.2.2.1, cells := r.2.2.2.2.2.2.2.1, slots := r.2.2.2.2.2.2.2.2.1, locals := r.2.2.2.2.2.2.1 }
def FrC (p : Program) (s : State) (m : MethodId) (args : Array Value) (meth : Method) (c : Code) (R : Room) (r : MR) : Prop :=
  p.tables.exec = Jvm.exec ∧ c.code = r.2.1 ∧ c.maxLocals = r.2.2.1 ∧ s.vm.findClass r.1.cls = some m.cls ∧ (∀ w ∈ nW0, w.before args s = true) ∧ nCn[r.2.2.2.2.1]? = some r.1.cls ∧ (r.1.name = "<init>" → meth.name = "<init>") ∧ R.cells = r.2.2.2.2.2.2.2.1 ∧ R.slots = r.2.2.2.2.2.2.2.2.1 ∧ R.frames = r.2.2.2.2.2.1 ∧ R.locals = r.2.2.2.2.2.2.1
def RetI (r : MR) (v : Option Vl) (ins : Instr) : Prop :=
  (∃ x t, v = some (.inl x) ∧ ins = .ireturn ∧ r.2.2.2.1 = some t ∧ narrow t (.int (Int32.ofInt x)) = .int (Int32.ofInt x)) ∨ (∃ x, v = some (.inr (.inl x)) ∧ ins = .lreturn ∧ r.2.2.2.1 = some .long) ∨ (∃ x c, v = some (.inr (.inr (some x))) ∧ ins = .areturn ∧ r.2.2.2.1 = some (.object c)) ∨ (v = none ∧ ins = .return_ ∧ r.2.2.2.1 = none)
def RetH (p : Program) (l : Launch) (e : Env) (R : Room) (s : State) (m : MethodId) (args : Array Value) (below : List Frame) (meth : Method) (c : Code) (Qw : State → Prop) (fo : Option Nat) (E : Nat → ClassId) (D : va_G) (A : Nat → Prop) (n0 : Nat) (ad0 : Nat → Nat) (r : MR) (Q : Option Vl → Hp → Prop) : Prop :=
  ∀ pc la H locs cs sl ad v h ins, decode r.2.1 pc = .ok (ins, 1) → RetI r v ins → cs ≤ r.2.2.2.2.2.2.2.1 → sl ≤ r.2.2.2.2.2.2.2.2.1 → Q v h → (∀ x, v = some x → okV h.1.length x) → nW fo E D ad h A s H locs → n0 ≤ h.1.length → (∀ a, a < n0 → ad a = ad0 a) → W p l e R s m args below meth c H locs cs sl Qw (F0 m pc la ((v.map (cv ad fo)).toList))
def Snd (l : Launch) (n : Nat) : Prop := ∀ (j : Nat) (r : MR) (pc : Nat) (ls : Lc) (st : List Vl) (h : Hp) (cs sl : Nat) (Q : Option Vl → Hp → Prop) (p : Program) (e : Env) (R : Room) (s : State) (m : MethodId) (args : Array Value) (below : List Frame) (meth : Method) (c : Code) (Qw : State → Prop) (fo : Option Nat) (E : Nat → ClassId) (D : va_G) (A : Nat → Prop) (n0 : Nat) (ad0 : Nat → Nat) (la : Array Slot) (H : Heap) (locs : List Loc) (ad : Nat → Nat),
  mrec j = some r → wp n j pc ls st h cs sl Q → FrC p s m args meth c R r → Inv fo E D A n0 ad0 s r.2.2.1 ls st h la H locs ad → RetH p l e R s m args below meth c Qw fo E D A n0 ad0 r Q → W p l e R s m args below meth c H locs cs sl Qw (F0 m pc la (st.map (cv ad fo)))
theorem arg_in {ad : Nat → Nat} {fo : Option Nat} : ∀ (as : List Vl) (k i : Nat) (v : Vl), (argL as)[i]? = some (some v) → (k + i, cv ad fo v) ∈ lv_args k (as.map (cv ad fo)) := by
  intro as
  induction as with
  | nil => intro k i v h; cases h
  | cons a as ih =>
    intro k i v h
    have step1 : ∀ (hc : vcat a = 1), argL (a :: as) = some a :: argL as := fun hc => by
      rcases a with z | x | r
      · rfl
      · cases hc
      · rfl
    rw [List.map_cons]
    show (k + i, cv ad fo v) ∈ (k, cv ad fo a) :: lv_args (if (cv ad fo a).category = 2 then k + 2 else k + 1) (as.map (cv ad fo))
    rw [cv_cat]
    by_cases hc : vcat a = 2
    · rcases a with z | x | r
      · cases hc
      · rw [if_pos hc]
        cases i with
        | zero => cases h; exact List.mem_cons_self
        | succ i =>
          cases i with
          | zero => cases h
          | succ i =>
            have h : (argL as)[i]? = some (some v) := h
            have := ih (k + 2) i v h
            rw [show k + 2 + i = k + (i + 1 + 1) by omega] at this
            exact List.mem_cons_of_mem _ this
      · cases hc
    · have hc1 : vcat a = 1 := by
        rcases a with z | x | r
        · rfl
        · exact absurd rfl hc
        · rfl
      rw [if_neg hc]
      rw [step1 hc1] at h
      cases i with
      | zero => cases h; exact List.mem_cons_self
      | succ i =>
        rw [List.getElem?_cons_succ] at h
        have := ih (k + 1) i v h
        rw [show k + 1 + i = k + (i + 1) by omega] at this
        exact List.mem_cons_of_mem _ this
theorem argL_len : ∀ as : List Vl, (argL as).length = csum as := by
  intro as
  induction as with
  | nil => rfl
  | cons a as ih =>
    have e : csum (a :: as) = vcat a + csum as := by unfold csum; rw [List.map_cons, List.sum_cons]
    rw [e, ← ih]
    rcases a with z | x | r
    · show (argL as).length + 1 = 1 + _; omega
    · show (argL as).length + 1 + 1 = 2 + _; omega
    · show (argL as).length + 1 = 1 + _; omega
theorem argL_ok {n : Nat} : ∀ as : List Vl, okSt n as → okLs n (argL as) := by
  intro as
  induction as with
  | nil => intro _ v hv; cases hv
  | cons a as ih =>
    intro h v hv
    rcases a with z | x | r
    · rcases List.mem_cons.mp hv with q | q
      · cases q; exact h.hd
      · exact ih h.tl v q
    · rcases List.mem_cons.mp hv with q | q
      · cases q; exact h.hd
      · rcases List.mem_cons.mp q with q | q
        · cases q
        · exact ih h.tl v q
    · rcases List.mem_cons.mp hv with q | q
      · cases q; exact h.hd
      · exact ih h.tl v q
theorem mkL_ok {n k : Nat} {as : List Vl} (h : okSt n as) : okLs n (mkL k as) := by
  intro v hv
  unfold mkL at hv
  rcases List.mem_append.mp hv with q | q
  · exact argL_ok as h v q
  · cases List.eq_of_mem_replicate q
theorem lgsl_len {ad : Nat → Nat} {fo : Option Nat} (as : List Vl) : (lg_sl (as.map (cv ad fo))).length = csum as := by
  unfold lg_sl csum
  induction as with
  | nil => rfl
  | cons a as ih =>
    rw [List.map_cons, List.flatMap_cons, List.length_append, ih, cv_cat, List.map_cons, List.sum_cons]
    congr 1
    rcases a with z | x | r <;> rfl
theorem chkM_spec {r : MR} {q : Nat × Nat × Nat} (h : chkM r q = true) : Cond.initialized r.1.cls ∈ nW0 ∧ nCn[r.2.2.2.2.1]? = some r.1.cls ∧ (parseMethodDescriptor r.1.desc).map (fun d => d.parameters.length) = some r.2.2.2.2.2.2.2.2.2.1 ∧ plainName r.1.cls = true ∧ r.1.cls ≠ "java/lang/invoke/MethodHandle" ∧ r.1.cls ≠ "java/lang/invoke/VarHandle" ∧ (r.2.2.2.2.2.2.2.2.2.2 = 0 → Cond.static r.1 ∈ nW0) ∧ (r.2.2.2.2.2.2.2.2.2.2 = 1 → Cond.instanceMethod r.1 ∈ nW0 ∧ Cond.selects r.1.cls r.1 r.1 ∈ nW0 ∧ (r.2.2.2.2.1 < 11 ∨ r.2.2.2.2.1 = 17)) ∧ (r.2.2.2.2.2.2.2.2.2.2 = 2 → Cond.instanceMethod r.1 ∈ nW0 ∧ r.1.name = "<init>") := by
  unfold chkM at h
  rw [Bool.and_eq_true] at h
  obtain ⟨h, a7⟩ := h
  simp only [Bool.and_eq_true, decide_eq_true_eq, Bool.not_eq_true', decide_eq_false_iff_not] at h
  obtain ⟨⟨⟨⟨⟨a1, a2⟩, a3⟩, a4⟩, a5⟩, a6⟩ := h
  refine ⟨wAt_in a1, a2, a3, a4, a5, a6, fun hf => ?_, fun hf => ?_, fun hf => ?_⟩
  · rw [hf] at a7
    exact wAt_in a7
  · rw [hf] at a7
    simp only [Bool.and_eq_true, Bool.or_eq_true, decide_eq_true_eq] at a7
    exact ⟨wAt_in a7.1.1, wAt_in a7.1.2, a7.2⟩
  · rw [hf] at a7
    simp only [Bool.and_eq_true, decide_eq_true_eq] at a7
    exact ⟨wAt_in a7.1, a7.2⟩
set_option maxHeartbeats 1000000 in
/-- a method's contract, out of the interpreter's word for it -/
theorem met_of {l : Launch} {n j : Nat} {r : MR} {as : List Vl} {h : Hp} {Q : Option Vl → Hp → Prop} (ih : Snd l n) (hj : mrec j = some r) (hm : MOk r) (hw : wp n j 0 (mkL r.2.2.1 as) [] h 0 0 Q) (hok : okSt h.1.length as) (hc : csum as ≤ r.2.2.1) (fo : Option Nat) (E : Nat → ClassId) (D : va_G) (ad : Nat → Nat) (sz : Nat) :
    Met l r.1 (Cond.code r.1 r.2.1 r.2.2.1 r.2.2.2.1 :: nW0) (rmOf r) (va_Pc (as.map (cv ad fo)) (nV fo E D ad h sz)) (nQ fo E D ad h sz Q) r.2.2.2.2.2.2.2.1 r.2.2.2.2.2.2.2.2.1 (va_A (nWs E ad h) sz) := by
  obtain ⟨hcode, q9, hq9⟩ := hm
  obtain ⟨m1, m2, m3, m4, m5, m6, m7⟩ := chkM_spec hq9
  refine Met.ofW (cc := r.2.1) (maxL := r.2.2.1) (ret := r.2.2.2.1) m4 rfl ?_
  intro p e s m args below meth c s₁ B hml hv
  obtain ⟨rfl, hsz, hP, hK, hD0, hC, hWd, ho⟩ := hv
  have hx := B.exec
  have hb := B.bytes
  have hr := B.returns
  have hts0 := atoms_spec (ws := Cond.code r.1 r.2.1 r.2.2.1 r.2.2.2.1 :: nW0) B.pre
  have hts : ∀ w ∈ nW0, w.before (as.map (cv ad fo)).toArray s = true := fun w hw => hts0 w (List.mem_cons_of_mem _ hw)
  have hown : s.vm.findClass r.1.cls = some m.cls := findClass_of_methodNamed B.named
  have hlocks := B.notSynchronized
  have hin : r.1.name = "<init>" → meth.name = "<init>" := fun q => by rw [(name_of_methodNamed B.named B.method).1]; exact q
  have hD := hD0.self (sz := sz)
  have hl := lv_entry (as.map (cv ad fo)) (n := r.2.2.1) (by rw [lgsl_len]; exact hc)
  rw [lg_entry_eq]
  generalize (lg_sl (as.map (cv ad fo)) ++ List.replicate (r.2.2.1 - (lg_sl (as.map (cv ad fo))).length) Slot.unset).toArray = la at hl ⊢
  have hlen : (mkL r.2.2.1 as).length = r.2.2.1 := by unfold mkL; rw [List.length_append, List.length_replicate, argL_len]; omega
  have hcv : ∀ q ∈ cvL ad fo (mkL r.2.2.1 as), q ∈ lv_args 0 (as.map (cv ad fo)) := fun q hq => by
    obtain ⟨v, h1, h2⟩ := mem_cvL.mp hq
    unfold mkL at h1
    by_cases hi : q.1 < (argL as).length
    · rw [List.getElem?_append_left hi] at h1
      have := arg_in (ad := ad) (fo := fo) as 0 q.1 v h1
      rw [Nat.zero_add, ← h2] at this
      exact this
    · rw [List.getElem?_append_right (by omega)] at h1
      cases List.eq_of_mem_replicate (List.mem_of_getElem? h1)
  have hS : va_S (va_A (nWs E ad h) sz) s.heap s.heap [] := va_S.rf
  have hA : ∀ q : Nat, s.heap.size ≤ q → va_A (nWs E ad h) sz q := fun q hq => Or.inr (by rw [← hsz]; exact hq)
  refine ih j r 0 (mkL r.2.2.1 as) [] h 0 0 Q p e _ s m _ below meth c _ fo E D (va_A (nWs E ad h) sz) h.1.length ad la s.heap [] ad hj hw ⟨hx, hb, hml, hown, hts, m2, hin, rfl, rfl, rfl, rfl⟩ ⟨⟨hl.mono hcv, hlen⟩, mkL_ok hok, fun _ h9 => (by cases h9), ⟨hK, hP, hD, hS, hA, hC, hWd, ho⟩, Nat.le_refl _, fun _ _ => rfl⟩ ?_
  intro pc la H locs cs sl ad2 v h2 ins hdg hI hcs hsl hQ hv ⟨w1, w2, w3, w4, w5, w6, w7, w8⟩ hn had
  refine W.widen hcs hsl ?_
  have hfin : ∀ (o : Option Value), o = v.map (cv ad2 fo) → ∀ t : State, t.heap = H → s.WarmedH t.vm → nQ fo E D ad h sz Q (as.map (cv ad fo)).toArray s (.returned o) t := fun o ho9 t ht hW => ⟨v, h2, ad2, by rw [ho9], hQ, hv, hn, had, by rw [ht]; exact w2, w3, w8, w4.F ht⟩
  rcases hI with ⟨x, t, rfl, rfl, h3, h4⟩ | ⟨x, rfl, rfl, h3⟩ | ⟨x, c9, rfl, rfl, h3⟩ | ⟨rfl, rfl, h3⟩
  · exact W.zret hx hb (hr.trans h3) h4 (hfin _ rfl) w4.2.2 hdg
  · exact W.lret hx hb (hr.trans h3) (hfin _ rfl) w4.2.2 hdg
  · refine W.aret (v := cv ad2 fo (.inr (.inr (some x)))) hx hb (hr.trans h3) (Or.inl ⟨_, rfl⟩) ?_ (hfin _ rfl) w4.2.2 hdg
    by_cases hx9 : x = 27
    · rw [show cv ad2 fo (.inr (.inr (some x))) = va_rf fo from if_pos hx9]
      cases fo
      · exact Or.inl rfl
      · exact Or.inr ⟨_, rfl⟩
    · rw [cv_ref hx9]; exact Or.inr ⟨_, rfl⟩
  · exact W.vret hx hb (hr.trans h3) (hfin _ rfl) w4.2.2 hdg
