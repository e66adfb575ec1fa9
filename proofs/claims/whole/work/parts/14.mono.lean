/-! the interpreter is monotone: in fuel, in what is asked at the end, and it leaves shapes and constants as they are -/
def SameC (h h2 : Hp) : Prop := (∃ xs, h2.1 = h.1 ++ xs) ∧ ∀ a i, a < 28 → h2.2.1 a i = h.2.1 a i ∧ h2.2.2.1 a i = h.2.2.1 a i
def CK (h : Hp) : Prop := 28 ≤ h.1.length ∧ ∀ a k n, a < 28 → h.1[a]? = some (k, n) → 100 ≤ k ∧ k ≠ 110 ∧ k ≠ 111
theorem SameC.refl (h : Hp) : SameC h h := ⟨⟨[], by simp⟩, fun _ _ _ => ⟨rfl, rfl⟩⟩
theorem SameC.trans {h h2 h3 : Hp} (a : SameC h h2) (b : SameC h2 h3) : SameC h h3 := by
  obtain ⟨⟨xs, a1⟩, a2⟩ := a
  obtain ⟨⟨ys, b1⟩, b2⟩ := b
  exact ⟨⟨xs ++ ys, by rw [b1, a1, List.append_assoc]⟩, fun a i ha => ⟨(b2 a i ha).1.trans (a2 a i ha).1, (b2 a i ha).2.trans (a2 a i ha).2⟩⟩
theorem SameC.len {h h2 : Hp} (a : SameC h h2) : h.1.length ≤ h2.1.length := by
  obtain ⟨⟨xs, a1⟩, a2⟩ := a
  rw [a1, List.length_append]
  omega
theorem SameC.sh {h h2 : Hp} (a : SameC h h2) {b : Nat} (hb : b < h.1.length) : h2.1[b]? = h.1[b]? := by
  obtain ⟨⟨xs, a1⟩, a2⟩ := a
  rw [a1, List.getElem?_append_left hb]
theorem CK.same {h h2 : Hp} (c : CK h) (a : SameC h h2) : CK h2 := ⟨Nat.le_trans c.1 a.len, fun b k n hb hs => c.2 b k n hb (by rw [← a.sh (Nat.lt_of_lt_of_le hb c.1)]; exact hs)⟩
theorem SameC.putI {h : Hp} {a i : Nat} {v : Int} (ha : 28 ≤ a) : SameC h (putI h a i v) := ⟨⟨[], (List.append_nil _).symm⟩, fun b j hb => ⟨up2_ne (by omega), rfl⟩⟩
theorem SameC.putR {h : Hp} {a i : Nat} {v : Option Nat} (ha : 28 ≤ a) : SameC h (putR h a i v) := ⟨⟨[], (List.append_nil _).symm⟩, fun b j hb => ⟨rfl, up2_ne (by omega)⟩⟩
theorem SameC.putL {h : Hp} {a i : Nat} {v : Int64} : SameC h (putL h a i v) := ⟨⟨[], (List.append_nil _).symm⟩, fun b j hb => ⟨rfl, rfl⟩⟩
theorem SameC.alc {h : Hp} {k n : Nat} (ha : 28 ≤ h.1.length) : SameC h (alc h k n) := ⟨⟨_, rfl⟩, fun b j hb => ⟨if_neg (by omega), if_neg (by omega)⟩⟩
theorem SameC.alcG {h : Hp} {k n : Nat} (ha : 28 ≤ h.1.length) : SameC h (alcG h n k) := by
  refine ⟨⟨_, rfl⟩, fun b j hb => ⟨if_neg (by omega), ?_⟩⟩
  show (if b = h.1.length then _ else if h.1.length ≤ b then none else h.2.2.1 b j) = _
  rw [if_neg (by omega), if_neg (by omega)]
theorem SameC.cpy {h : Hp} {a b sp dp n : Nat} (hb : 28 ≤ b) : SameC h (cpyI h a b sp dp n) := ⟨⟨[], (List.append_nil _).symm⟩, fun c j hc => ⟨if_neg (fun q => by omega), rfl⟩⟩
theorem CK.at {h : Hp} {a k n : Nat} (c : CK h) (hs : h.1[a]? = some (k, n)) (hk : k < 100 ∨ k = 110 ∨ k = 111) : 28 ≤ a := by
  rcases Nat.lt_or_ge a 28 with q | q
  · have := c.2 a k n q hs
    omega
  · exact q
theorem pI_mono {st : List Vl} {k k2 : Int → List Vl → Prop} (h : ∀ x r, k x r → k2 x r) (w : pI st k) : pI st k2 := by
  obtain ⟨x, r, rfl, hw⟩ := pI_inv w
  exact h x r hw
theorem pL_mono {st : List Vl} {k k2 : Int64 → List Vl → Prop} (h : ∀ x r, k x r → k2 x r) (w : pL st k) : pL st k2 := by
  obtain ⟨x, r, rfl, hw⟩ := pL_inv w
  exact h x r hw
theorem pA_mono {st : List Vl} {k k2 : Nat → List Vl → Prop} (h : ∀ x r, k x r → k2 x r) (w : pA st k) : pA st k2 := by
  obtain ⟨x, r, rfl, hw⟩ := pA_inv w
  exact h x r hw
theorem pV_mono {st : List Vl} {k k2 : Vl → List Vl → Prop} (h : ∀ x r, k x r → k2 x r) (w : pV st k) : pV st k2 := by
  obtain ⟨x, r, rfl, hw⟩ := pV_inv w
  exact h x r hw
theorem gI_mono {ls : Lc} {i : Nat} {k k2 : Int → Prop} (h : ∀ x, k x → k2 x) (w : gI ls i k) : gI ls i k2 := by
  obtain ⟨x, hx, hw⟩ := gI_inv w
  unfold gI
  rw [hx]
  exact h x hw
theorem gL_mono {ls : Lc} {i : Nat} {k k2 : Int64 → Prop} (h : ∀ x, k x → k2 x) (w : gL ls i k) : gL ls i k2 := by
  obtain ⟨x, hx, hw⟩ := gL_inv w
  unfold gL
  rw [hx]
  exact h x hw
theorem gR_mono {ls : Lc} {i : Nat} {k k2 : Option Nat → Prop} (h : ∀ x, k x → k2 x) (w : gR ls i k) : gR ls i k2 := by
  obtain ⟨x, hx, hw⟩ := gR_inv w
  unfold gR
  rw [hx]
  exact h x hw
theorem jmp_mono {K K2 : Nat → Prop} {pc : Nat} {off : Int} (h : ∀ p, K p → K2 p) (w : jmp K pc off) : jmp K2 pc off := ⟨w.1, h _ w.2⟩
section MONO
variable {X : Prop} {K K2 : Nat → Lc → List Vl → Hp → Nat → Nat → Prop} {C C2 : Nat → Lc → Hp → (Option Vl → Hp → Prop) → Prop} {r : MR} {pc len : Nat} {ins : Instr} {ls : Lc} {st : List Vl} {h : Hp} {cs sl : Nat} {Q Q2 : Option Vl → Hp → Prop}
theorem callT_mono {KK KK2 : List Vl → Hp → Nat → Nat → Prop} {j2 : Nat} {r2 : MR} {n : Nat} (hC : ∀ j2 ls Q1 Q3, (∀ v h2, (X → SameC h h2) → Q1 v h2 → Q3 v h2) → C j2 ls h Q1 → C2 j2 ls h Q3) (hK : ∀ st h2 cs sl, (X → SameC h h2) → KK st h2 cs sl → KK2 st h2 cs sl) (w : callT C KK r j2 r2 n st h cs sl) : callT C2 KK2 r j2 r2 n st h cs sl := ⟨w.1, w.2.1, w.2.2.1, hC _ _ _ _ (fun v h2 hs q => hK _ _ _ _ hs q) w.2.2.2⟩
theorem stepF_mono (hc : X → CK h) (hK : ∀ pc ls st h2 cs sl, (X → SameC h h2) → K pc ls st h2 cs sl → K2 pc ls st h2 cs sl) (hC : ∀ j2 ls Q1 Q3, (∀ v h2, (X → SameC h h2) → Q1 v h2 → Q3 v h2) → C j2 ls h Q1 → C2 j2 ls h Q3) (hQ : ∀ v, Q v h → Q2 v h) : stepF K C r pc len ins ls st h cs sl Q → stepF K2 C2 r pc len ins ls st h cs sl Q2 := by
  have hr : X → SameC h h := fun _ => SameC.refl h
  cases ins with
  | iconst n => exact fun ⟨a, b, c⟩ => ⟨a, b, hK _ _ _ _ _ _ hr c⟩
  | lconst n => exact fun ⟨a, c⟩ => ⟨a, hK _ _ _ _ _ _ hr c⟩
  | bipush n => exact fun ⟨a, c⟩ => ⟨a, hK _ _ _ _ _ _ hr c⟩
  | sipush n => exact fun ⟨a, c⟩ => ⟨a, hK _ _ _ _ _ _ hr c⟩
  | iload i => exact fun ⟨a, c⟩ => ⟨a, gI_mono (fun _ c => hK _ _ _ _ _ _ hr c) c⟩
  | iload_n i => exact fun ⟨a, c⟩ => ⟨a, gI_mono (fun _ c => hK _ _ _ _ _ _ hr c) c⟩
  | lload i => exact fun ⟨a, c⟩ => ⟨a, gL_mono (fun _ c => hK _ _ _ _ _ _ hr c) c⟩
  | lload_n i => exact fun ⟨a, c⟩ => ⟨a, gL_mono (fun _ c => hK _ _ _ _ _ _ hr c) c⟩
  | aload i => exact fun ⟨a, c⟩ => ⟨a, gR_mono (fun _ c => hK _ _ _ _ _ _ hr c) c⟩
  | aload_n i => exact fun ⟨a, c⟩ => ⟨a, gR_mono (fun _ c => hK _ _ _ _ _ _ hr c) c⟩
  | istore i => exact fun ⟨a, b, d, c⟩ => ⟨a, b, d, pI_mono (fun _ _ c => hK _ _ _ _ _ _ hr c) c⟩
  | istore_n i => exact fun ⟨a, b, d, c⟩ => ⟨a, b, d, pI_mono (fun _ _ c => hK _ _ _ _ _ _ hr c) c⟩
  | lstore i => exact fun ⟨a, b, d, c⟩ => ⟨a, b, d, pL_mono (fun _ _ c => hK _ _ _ _ _ _ hr c) c⟩
  | lstore_n i => exact fun ⟨a, b, d, c⟩ => ⟨a, b, d, pL_mono (fun _ _ c => hK _ _ _ _ _ _ hr c) c⟩
  | astore i => exact fun ⟨a, b, d, c⟩ => ⟨a, b, d, pA_mono (fun _ _ c => hK _ _ _ _ _ _ hr c) c⟩
  | astore_n i => exact fun ⟨a, b, d, c⟩ => ⟨a, b, d, pA_mono (fun _ _ c => hK _ _ _ _ _ _ hr c) c⟩
  | iinc i n => exact fun ⟨a, b, d, c⟩ => ⟨a, b, d, gI_mono (fun _ c => hK _ _ _ _ _ _ hr c) c⟩
  | iadd => exact fun ⟨a, c⟩ => ⟨a, pI_mono (fun _ _ c => pI_mono (fun _ _ c => hK _ _ _ _ _ _ hr c) c) c⟩
  | isub => exact fun ⟨a, c⟩ => ⟨a, pI_mono (fun _ _ c => pI_mono (fun _ _ c => hK _ _ _ _ _ _ hr c) c) c⟩
  | imul => exact fun ⟨a, c⟩ => ⟨a, pI_mono (fun _ _ c => pI_mono (fun _ _ c => hK _ _ _ _ _ _ hr c) c) c⟩
  | iand => exact fun ⟨a, c⟩ => ⟨a, pI_mono (fun _ _ c => pI_mono (fun _ _ c => hK _ _ _ _ _ _ hr c) c) c⟩
  | ior => exact fun ⟨a, c⟩ => ⟨a, pI_mono (fun _ _ c => pI_mono (fun _ _ c => hK _ _ _ _ _ _ hr c) c) c⟩
  | ishl => exact fun ⟨a, c⟩ => ⟨a, pI_mono (fun _ _ c => pI_mono (fun _ _ c => hK _ _ _ _ _ _ hr c) c) c⟩
  | ishr => exact fun ⟨a, c⟩ => ⟨a, pI_mono (fun _ _ c => pI_mono (fun _ _ c => hK _ _ _ _ _ _ hr c) c) c⟩
  | idiv => exact fun ⟨a, c⟩ => ⟨a, pI_mono (fun _ _ c => pI_mono (fun _ _ c => ⟨c.1, hK _ _ _ _ _ _ hr c.2⟩) c) c⟩
  | irem => exact fun ⟨a, c⟩ => ⟨a, pI_mono (fun _ _ c => pI_mono (fun _ _ c => ⟨c.1, hK _ _ _ _ _ _ hr c.2⟩) c) c⟩
  | ladd => exact fun ⟨a, c⟩ => ⟨a, pL_mono (fun _ _ c => pL_mono (fun _ _ c => hK _ _ _ _ _ _ hr c) c) c⟩
  | lsub => exact fun ⟨a, c⟩ => ⟨a, pL_mono (fun _ _ c => pL_mono (fun _ _ c => hK _ _ _ _ _ _ hr c) c) c⟩
  | lmul => exact fun ⟨a, c⟩ => ⟨a, pL_mono (fun _ _ c => pL_mono (fun _ _ c => hK _ _ _ _ _ _ hr c) c) c⟩
  | land => exact fun ⟨a, c⟩ => ⟨a, pL_mono (fun _ _ c => pL_mono (fun _ _ c => hK _ _ _ _ _ _ hr c) c) c⟩
  | lor => exact fun ⟨a, c⟩ => ⟨a, pL_mono (fun _ _ c => pL_mono (fun _ _ c => hK _ _ _ _ _ _ hr c) c) c⟩
  | lxor => exact fun ⟨a, c⟩ => ⟨a, pL_mono (fun _ _ c => pL_mono (fun _ _ c => hK _ _ _ _ _ _ hr c) c) c⟩
  | lcmp => exact fun ⟨a, c⟩ => ⟨a, pL_mono (fun _ _ c => pL_mono (fun _ _ c => hK _ _ _ _ _ _ hr c) c) c⟩
  | lshl => exact fun ⟨a, c⟩ => ⟨a, pI_mono (fun _ _ c => pL_mono (fun _ _ c => hK _ _ _ _ _ _ hr c) c) c⟩
  | lshr => exact fun ⟨a, c⟩ => ⟨a, pI_mono (fun _ _ c => pL_mono (fun _ _ c => hK _ _ _ _ _ _ hr c) c) c⟩
  | lushr => exact fun ⟨a, c⟩ => ⟨a, pI_mono (fun _ _ c => pL_mono (fun _ _ c => hK _ _ _ _ _ _ hr c) c) c⟩
  | ineg => exact fun ⟨a, c⟩ => ⟨a, pI_mono (fun _ _ c => hK _ _ _ _ _ _ hr c) c⟩
  | i2l => exact fun ⟨a, c⟩ => ⟨a, pI_mono (fun _ _ c => hK _ _ _ _ _ _ hr c) c⟩
  | l2i => exact fun ⟨a, c⟩ => ⟨a, pL_mono (fun _ _ c => hK _ _ _ _ _ _ hr c) c⟩
  | i2c => exact fun ⟨a, c⟩ => ⟨a, pI_mono (fun _ _ c => hK _ _ _ _ _ _ hr c) c⟩
  | dup => exact fun ⟨a, c⟩ => ⟨a, pV_mono (fun _ _ c => ⟨c.1, hK _ _ _ _ _ _ hr c.2⟩) c⟩
  | pop => exact fun ⟨a, c⟩ => ⟨a, pV_mono (fun _ _ c => ⟨c.1, hK _ _ _ _ _ _ hr c.2⟩) c⟩
  | dup2 => exact fun ⟨a, c⟩ => ⟨a, pV_mono (fun _ _ c => pV_mono (fun _ _ c => ⟨c.1, c.2.1, hK _ _ _ _ _ _ hr c.2.2⟩) c) c⟩
  | goto off => exact fun ⟨a, c⟩ => ⟨a, jmp_mono (fun _ c => hK _ _ _ _ _ _ hr c) c⟩
  | ifCond cc off => exact fun ⟨a, c⟩ => ⟨a, pI_mono (fun _ _ c => ⟨fun q => jmp_mono (fun _ c => hK _ _ _ _ _ _ hr c) (c.1 q), fun q => hK _ _ _ _ _ _ hr (c.2 q)⟩) c⟩
  | if_icmp cc off => exact fun ⟨a, c⟩ => ⟨a, pI_mono (fun _ _ c => pI_mono (fun _ _ c => ⟨fun q => jmp_mono (fun _ c => hK _ _ _ _ _ _ hr c) (c.1 q), fun q => hK _ _ _ _ _ _ hr (c.2 q)⟩) c) c⟩
  | tableswitch d lo hi offs => exact fun c => pI_mono (fun _ _ c => ⟨fun q => jmp_mono (fun _ c => hK _ _ _ _ _ _ hr c) (c.1 q), fun q => ⟨(c.2 q).choose, (c.2 q).choose_spec.1, jmp_mono (fun _ c => hK _ _ _ _ _ _ hr c) (c.2 q).choose_spec.2⟩⟩) c
  | lookupswitch d ps => exact fun c => ⟨c.1, pI_mono (fun _ _ c => jmp_mono (fun _ c => hK _ _ _ _ _ _ hr c) c) c.2⟩
  | getstatic i =>
    rintro ⟨a, w⟩
    refine ⟨a, ?_⟩
    cases hv : lk2 nGs r.2.2.2.2.1 i with
    | none => rw [hv] at w; exact w.elim
    | some v => rw [hv] at w; exact hK _ _ _ _ _ _ hr w
  | ldc2_w i =>
    rintro ⟨a, w⟩
    refine ⟨a, ?_⟩
    cases hv : lk2 nC2 r.2.2.2.2.1 i with
    | none => rw [hv] at w; exact w.elim
    | some v => rw [hv] at w; exact hK _ _ _ _ _ _ hr w
  | ldc i =>
    rintro ⟨a, w⟩
    refine ⟨a, ?_⟩
    revert w
    show (match r.2.2.2.2.1, nSt.lookup i with | 9, some k => K (pc + 2) ls (.inr (.inr (some (3 + k))) :: st) h cs sl | _, _ => False) → (match r.2.2.2.2.1, nSt.lookup i with | 9, some k => K2 (pc + 2) ls (.inr (.inr (some (3 + k))) :: st) h cs sl | _, _ => False)
    split
    · exact fun w => hK _ _ _ _ _ _ hr w
    · exact id
  | getfield i =>
    rintro ⟨a, w⟩
    refine ⟨a, pA_mono (fun b st w => ?_) w⟩
    cases hv : lk2 nFd r.2.2.2.2.1 i with
    | none => rw [hv] at w; exact w.elim
    | some v => rw [hv] at w; exact ⟨w.1, hK _ _ _ _ _ _ hr w.2⟩
  | putfield i =>
    rintro ⟨a, w⟩
    refine ⟨a, ?_⟩
    cases hv : lk2 nFd r.2.2.2.2.1 i with
    | none => rw [hv] at w; exact w.elim
    | some v =>
      obtain ⟨ci, k, t, f⟩ := v
      rw [hv] at w
      refine ⟨w.1, ?_⟩
      have w2 := w.2
      by_cases h3 : t = 3
      · rw [if_pos h3] at w2 ⊢
        refine pV_mono (fun v st w => pA_mono (fun b st w => ?_) w) w2
        rcases v with v | v | x
        · exact w
        · exact w
        · exact ⟨w.1, w.2.1, w.2.2.1, hK _ _ _ _ _ _ (fun q => SameC.putR ((hc q).at w.2.2.1.choose_spec (Or.inl w.2.1))) w.2.2.2⟩
      · rw [if_neg h3] at w2 ⊢
        by_cases h2 : t = 2
        · rw [if_pos h2] at w2 ⊢
          exact pL_mono (fun v st w => pA_mono (fun b st w => ⟨w.1, w.2.1, hK _ _ _ _ _ _ (fun q => SameC.putL) w.2.2⟩) w) w2
        · rw [if_neg h2] at w2 ⊢
          exact pI_mono (fun v st w => pA_mono (fun b st w => ⟨w.1, w.2.1, w.2.2.1, hK _ _ _ _ _ _ (fun q => SameC.putI ((hc q).at w.2.2.1.choose_spec (Or.inl w.2.1))) w.2.2.2⟩) w) w2
  | new i =>
    rintro ⟨a, w⟩
    refine ⟨a, ?_⟩
    cases hv : lk2 nNw r.2.2.2.2.1 i with
    | none => rw [hv] at w; exact w.elim
    | some ci =>
      simp only [hv] at w ⊢
      cases ht : nFT[ci]? with
      | none => simp only [ht] at w
      | some ts => simp only [ht] at w ⊢; exact ⟨w.1, w.2.1, hK _ _ _ _ _ _ (fun q => SameC.alc (hc q).1) w.2.2⟩
  | newarray t =>
    rintro ⟨a, w⟩
    refine ⟨a, pI_mono (fun n st w => ⟨w.1, w.2.1, w.2.2.1, w.2.2.2.1, ?_⟩) w⟩
    have w := w.2.2.2.2
    cases t with
    | int => exact hK _ _ _ _ _ _ (fun q => SameC.alc (hc q).1) w
    | boolean => exact hK _ _ _ _ _ _ (fun q => SameC.alc (hc q).1) w
    | long => exact hK _ _ _ _ _ _ (fun q => SameC.alc (hc q).1) w
    | char => exact w
    | float => exact w
    | double => exact w
    | byte => exact w
    | short => exact w
  | anewarray i =>
    rintro ⟨a, w⟩
    refine ⟨a, pI_mono (fun n st w => ⟨w.1, w.2.1, w.2.2.1, w.2.2.2.1, ?_⟩) w⟩
    have w := w.2.2.2.2
    generalize lk2 nNw r.2.2.2.2.1 i = o9 at w ⊢
    split at w
    · exact hK _ _ _ _ _ _ (fun q => SameC.alc (hc q).1) w
    · exact hK _ _ _ _ _ _ (fun q => SameC.alc (hc q).1) w
    · exact w.elim
  | multianewarray i d =>
    rintro ⟨a, b, c, d, w⟩
    exact ⟨a, b, c, d, pI_mono (fun k st w => pI_mono (fun n st w => ⟨w.1, w.2.1, w.2.2.1, w.2.2.2.1, w.2.2.2.2.1, w.2.2.2.2.2.1, hK _ _ _ _ _ _ (fun q => SameC.alcG (hc q).1) w.2.2.2.2.2.2⟩) w) w⟩
  | arraylength => exact fun ⟨a, c⟩ => ⟨a, pA_mono (fun _ _ ⟨k, n, c1, c2, c3, c4, c⟩ => ⟨k, n, c1, c2, c3, c4, hK _ _ _ _ _ _ hr c⟩) c⟩
  | iaload => exact fun ⟨a, c⟩ => ⟨a, pI_mono (fun _ _ c => pA_mono (fun _ _ c => ⟨c.1, hK _ _ _ _ _ _ hr c.2⟩) c) c⟩
  | baload => exact fun ⟨a, c⟩ => ⟨a, pI_mono (fun _ _ c => pA_mono (fun _ _ c => ⟨c.1, hK _ _ _ _ _ _ hr c.2⟩) c) c⟩
  | laload => exact fun ⟨a, c⟩ => ⟨a, pI_mono (fun _ _ c => pA_mono (fun _ _ c => ⟨c.1, hK _ _ _ _ _ _ hr c.2⟩) c) c⟩
  | aaload => exact fun ⟨a, c⟩ => ⟨a, pI_mono (fun _ _ c => pA_mono (fun _ _ c => ⟨c.1, hK _ _ _ _ _ _ hr c.2⟩) c) c⟩
  | iastore => exact fun ⟨a, c⟩ => ⟨a, pI_mono (fun _ _ c => pI_mono (fun _ _ c => pA_mono (fun _ _ c => ⟨c.1, c.2.1, hK _ _ _ _ _ _ (fun _ => SameC.putI c.1) c.2.2⟩) c) c) c⟩
  | bastore => exact fun ⟨a, c⟩ => ⟨a, pI_mono (fun _ _ c => pI_mono (fun _ _ c => pA_mono (fun _ _ c => ⟨c.1, c.2.1, c.2.2.1, hK _ _ _ _ _ _ (fun _ => SameC.putI c.2.1) c.2.2.2⟩) c) c) c⟩
  | lastore => exact fun ⟨a, c⟩ => ⟨a, pL_mono (fun _ _ c => pI_mono (fun _ _ c => pA_mono (fun _ _ c => ⟨c.1, c.2.1, hK _ _ _ _ _ _ (fun _ => SameC.putL) c.2.2⟩) c) c) c⟩
  | aastore => exact fun ⟨a, c⟩ => ⟨a, pA_mono (fun _ _ c => pI_mono (fun _ _ c => pA_mono (fun _ _ c => ⟨c.1, hK _ _ _ _ _ _ (fun q => by
      obtain ⟨⟨k, n, ci, n', h1, h2, h3, h4⟩, -⟩ := c
      exact SameC.putR ((hc q).at h1 (by omega))) c.2⟩) c) c) c⟩
  | ireturn => exact fun ⟨a, b, d, c⟩ => ⟨a, b, d, pI_mono (fun _ _ c => ⟨c.1, c.2.1, hQ _ c.2.2⟩) c⟩
  | lreturn => exact fun ⟨a, b, d, c⟩ => ⟨a, b, d, pL_mono (fun _ _ c => ⟨c.1, c.2.1, hQ _ c.2.2⟩) c⟩
  | areturn => exact fun ⟨a, b, d, c⟩ => ⟨a, b, d, pA_mono (fun _ _ c => ⟨c.1, c.2.1, hQ _ c.2.2⟩) c⟩
  | return_ => exact fun ⟨a, b, d, e, f, c⟩ => ⟨a, b, d, e, f, hQ _ c⟩
  | invokestatic i =>
    rintro ⟨a, w⟩
    refine ⟨a, ?_⟩
    cases h1 : lk2 nAb r.2.2.2.2.1 i with
    | some u =>
      rw [h1] at w
      exact pI_mono (fun _ _ c => ⟨c.1, c.2.1, c.2.2.1, c.2.2.2.1, hK _ _ _ _ _ _ hr c.2.2.2.2⟩) w
    | none =>
      rw [h1] at w
      cases h2 : lk2 nLk r.2.2.2.2.1 i with
      | some j2 =>
        simp only [h2] at w ⊢
        obtain ⟨r2, w1, w2, w3⟩ := w
        exact ⟨r2, w1, w2, callT_mono hC (fun _ _ _ _ hs w => hK _ _ _ _ _ _ hs w) w3⟩
      | none =>
        simp only [h2] at w ⊢
        cases h3 : lk2 nCp r.2.2.2.2.1 i with
        | none => rw [h3] at w; exact w.elim
        | some u =>
          rw [h3] at w
          exact pI_mono (fun _ _ c => pI_mono (fun _ _ c => pA_mono (fun _ _ c => pI_mono (fun _ _ c => pA_mono (fun _ _ c => ⟨c.1, c.2.1, c.2.2.1, c.2.2.2.1, c.2.2.2.2.1, c.2.2.2.2.2.1, c.2.2.2.2.2.2.1, c.2.2.2.2.2.2.2.1, hK _ _ _ _ _ _ (fun _ => SameC.cpy c.2.2.2.2.2.2.1) c.2.2.2.2.2.2.2.2⟩) c) c) c) c) w
  | invokevirtual i =>
    rintro ⟨a, w⟩
    refine ⟨a, ?_⟩
    cases h2 : lk2 nLk r.2.2.2.2.1 i with
    | none => rw [h2] at w; exact w.elim
    | some j2 =>
      simp only [h2] at w ⊢
      obtain ⟨r2, b, n, w1, w2, w3, w4, w5⟩ := w
      exact ⟨r2, b, n, w1, w2, w3, w4, callT_mono hC (fun _ _ _ _ hs w => hK _ _ _ _ _ _ hs w) w5⟩
  | invokespecial i =>
    rintro ⟨a, w⟩
    refine ⟨a, ?_⟩
    cases h1 : lk2 nOi r.2.2.2.2.1 i with
    | some u =>
      rw [h1] at w
      exact pA_mono (fun _ _ c => ⟨c.1, c.2.1, c.2.2.1, hK _ _ _ _ _ _ hr c.2.2.2⟩) w
    | none =>
      rw [h1] at w
      simp only at w ⊢
      cases h2 : (lk2 nLk r.2.2.2.2.1 i).or (lk2 nNs r.2.2.2.2.1 i) with
      | none => rw [h2] at w; exact w.elim
      | some j2 =>
        simp only [h2] at w ⊢
        obtain ⟨r2, b, w1, w2, w3, w4, w5⟩ := w
        exact ⟨r2, b, w1, w2, w3, w4, callT_mono hC (fun _ _ _ _ hs w => hK _ _ _ _ _ _ hs w) w5⟩
  | _ => exact fun w => w
end MONO
theorem wp_up {n : Nat} : ∀ {j pc : Nat} {ls : Lc} {st : List Vl} {h : Hp} {cs sl : Nat} {Q Q2 : Option Vl → Hp → Prop}, (∀ v h2, Q v h2 → Q2 v h2) → wp n j pc ls st h cs sl Q → wp (n + 1) j pc ls st h cs sl Q2 := by
  induction n with
  | zero => exact fun _ h => h.elim
  | succ n ih =>
    intro j pc ls st h cs sl Q Q2 hQ w
    rw [wp_succ] at w ⊢
    cases hm : mrec j with
    | none => rw [hm] at w; exact w.elim
    | some r =>
      cases hf : fetch j pc with
      | none => rw [hm, hf] at w; exact w.elim
      | some x =>
        rw [hm, hf] at w
        exact stepF_mono (X := False) (fun q => q.elim) (fun _ _ _ _ _ _ _ w => ih hQ w) (fun _ _ _ _ h9 w => ih (fun v h2 => h9 v h2 (fun q => q.elim)) w) (fun v q => hQ v h q) w
theorem wp_le {n m : Nat} (hnm : n ≤ m) {j pc : Nat} {ls : Lc} {st : List Vl} {h : Hp} {cs sl : Nat} {Q : Option Vl → Hp → Prop} (w : wp n j pc ls st h cs sl Q) : wp m j pc ls st h cs sl Q := by
  obtain ⟨k, rfl⟩ := Nat.exists_eq_add_of_le hnm
  clear hnm
  induction k with
  | zero => exact w
  | succ k ih => exact wp_up (fun _ _ q => q) ih
/-- what is asked at the end may be weakened, with what the run leaves as it is at hand -/
theorem wp_same {n : Nat} : ∀ {j pc : Nat} {ls : Lc} {st : List Vl} {h : Hp} {cs sl : Nat} {Q Q2 : Option Vl → Hp → Prop}, CK h → (∀ v h2, SameC h h2 → Q v h2 → Q2 v h2) → wp n j pc ls st h cs sl Q → wp n j pc ls st h cs sl Q2 := by
  induction n with
  | zero => exact fun _ _ h => h.elim
  | succ n ih =>
    intro j pc ls st h cs sl Q Q2 hc hQ w
    rw [wp_succ] at w ⊢
    cases hm : mrec j with
    | none => rw [hm] at w; exact w.elim
    | some r =>
      cases hf : fetch j pc with
      | none => rw [hm, hf] at w; exact w.elim
      | some x =>
        rw [hm, hf] at w
        exact stepF_mono (X := True) (fun _ => hc) (fun _ _ _ _ _ _ hs w => ih (hc.same (hs trivial)) (fun v h2 h9 => hQ v h2 ((hs trivial).trans h9)) w) (fun _ _ _ _ h9 w => ih hc (fun v h2 q => h9 v h2 (fun _ => q)) w) (fun v q => hQ v h (SameC.refl h) q) w
