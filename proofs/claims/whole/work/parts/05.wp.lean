/-! the small interpreter: an abstract heap, and what a run from a place of a method comes to -/
abbrev Hp : Type := List (Nat × Nat) × (Nat → Nat → Int) × (Nat → Nat → Option Nat) × (Nat → Nat → Int64)
abbrev Lc : Type := List (Option Vl)
def mrec (j : Nat) : Option MR := (nKM[j]?).map (fun q => q.2)
def fetch (j pc : Nat) : Option (Instr × Nat) := match nKM[j]? with
  | some q => q.1.lookup pc
  | none => none
def lk2 {β : Type} (t : List (List (Nat × β))) (c i : Nat) : Option β := match t[c]? with
  | some l => l.lookup i
  | none => none
/-- the one call of Math.abs -/
def nAb : List (List (Nat × Unit)) := [[], [], [], [], [], [(161, ())], [], [], [], [], [], [], [], [], [], [], [], [], [], []]
def inI (z : Int) : Prop := -2147483648 ≤ z ∧ z ≤ 2147483647
def up2 {α : Type} (f : Nat → Nat → α) (a i : Nat) (v : α) : Nat → Nat → α := fun b j => if b = a ∧ j = i then v else f b j
def putI (h : Hp) (a i : Nat) (v : Int) : Hp := (h.1, up2 h.2.1 a i v, h.2.2.1, h.2.2.2)
def putR (h : Hp) (a i : Nat) (v : Option Nat) : Hp := (h.1, h.2.1, up2 h.2.2.1 a i v, h.2.2.2)
def putL (h : Hp) (a i : Nat) (v : Int64) : Hp := (h.1, h.2.1, h.2.2.1, up2 h.2.2.2 a i v)
/-- a new cell of kind k with n places -/
def alc (h : Hp) (k n : Nat) : Hp := (h.1 ++ [(k, n)], fun b i => if b = h.1.length then 0 else h.2.1 b i, fun b i => if b = h.1.length then none else h.2.2.1 b i, fun b i => if b = h.1.length then 0 else h.2.2.2 b i)
/-- a new row of n rows of k ints -/
def alcG (h : Hp) (n k : Nat) : Hp := (h.1 ++ (112, n) :: List.replicate n (100, k), fun b i => if h.1.length ≤ b then 0 else h.2.1 b i, fun b i => if b = h.1.length then (if i < n then some (h.1.length + 1 + i) else none) else if h.1.length ≤ b then none else h.2.2.1 b i, fun b i => if h.1.length ≤ b then 0 else h.2.2.2 b i)
def cpyI (h : Hp) (a b sp dp n : Nat) : Hp := (h.1, fun c i => if c = b ∧ dp ≤ i ∧ i < dp + n then h.2.1 a (sp + (i - dp)) else h.2.1 c i, h.2.2.1, h.2.2.2)
def pI (st : List Vl) (k : Int → List Vl → Prop) : Prop := match st with
  | .inl x :: r => k x r
  | _ => False
def pL (st : List Vl) (k : Int64 → List Vl → Prop) : Prop := match st with
  | .inr (.inl x) :: r => k x r
  | _ => False
def pA (st : List Vl) (k : Nat → List Vl → Prop) : Prop := match st with
  | .inr (.inr (some x)) :: r => k x r
  | _ => False
def vcat (v : Vl) : Nat := match v with
  | .inr (.inl _) => 2
  | _ => 1
def pV (st : List Vl) (k : Vl → List Vl → Prop) : Prop := match st with
  | v :: r => k v r
  | _ => False
def gI (ls : Lc) (i : Nat) (k : Int → Prop) : Prop := match ls[i]? with
  | some (some (.inl x)) => k x
  | _ => False
def gL (ls : Lc) (i : Nat) (k : Int64 → Prop) : Prop := match ls[i]? with
  | some (some (.inr (.inl x))) => k x
  | _ => False
def gR (ls : Lc) (i : Nat) (k : Option Nat → Prop) : Prop := match ls[i]? with
  | some (some (.inr (.inr x))) => k x
  | _ => False
/-- no long stands just ahead of place i -/
def noL (ls : Lc) (i : Nat) : Bool := match i with
  | 0 => true
  | k + 1 => match ls[k]? with
    | some (some (.inr (.inl _))) => false
    | _ => true
/-- the row of locals at a method's entry -/
def argL : List Vl → Lc
  | [] => []
  | .inr (.inl x) :: r => some (.inr (.inl x)) :: none :: argL r
  | v :: r => some v :: argL r
def mkL (n : Nat) (as : List Vl) : Lc := argL as ++ List.replicate (n - (argL as).length) none
def csum (st : List Vl) : Nat := (st.map vcat).sum
def jmp (K : Nat → Prop) (pc : Nat) (off : Int) : Prop := 0 ≤ (pc : Int) + off ∧ K ((pc : Int) + off).toNat
def op2 (f : Int32 → Int32 → Int32) (x y : Int) : Int := (f (Int32.ofInt x) (Int32.ofInt y)).toInt
def cnd (c : ClassFile.Cond) (x y : Int) : Prop := match c with
  | .eq => x = y
  | .ne => ¬ x = y
  | .lt => x < y
  | .ge => y ≤ x
  | .gt => y < x
  | .le => x ≤ y
def inA (i : Int) (n : Nat) : Prop := 0 ≤ i ∧ i < n
/-- the kind of a receiver of the methods of class c -/
def rkd (c : Nat) : Nat := if c = 17 then 200 else c
/-- what a call needs of room -/
def roomOk (r r' : MR) (cs sl : Nat) (rest : List Vl) : Prop :=
  csum rest ≤ 8 ∧ r'.2.2.2.2.2.1 + 1 ≤ r.2.2.2.2.2.1 ∧ 8 + (r'.2.2.1 + 11) + r'.2.2.2.2.2.2.1 ≤ r.2.2.2.2.2.2.1 ∧ cs + r'.2.2.2.2.2.2.2.1 ≤ r.2.2.2.2.2.2.2.1 ∧ sl + r'.2.2.2.2.2.2.2.2.1 ≤ r.2.2.2.2.2.2.2.2.1
def callT (C : Nat → Lc → Hp → (Option Vl → Hp → Prop) → Prop) (K : List Vl → Hp → Nat → Nat → Prop) (r : MR) (j' : Nat) (r' : MR) (n : Nat) (st : List Vl) (h : Hp) (cs sl : Nat) : Prop :=
  n ≤ st.length ∧ csum (st.take n) ≤ r'.2.2.1 ∧ roomOk r r' cs sl (st.drop n) ∧
  C j' (mkL r'.2.2.1 (st.take n).reverse) h (fun v h' => K (v.toList ++ st.drop n) h' (cs + r'.2.2.2.2.2.2.2.1) (sl + r'.2.2.2.2.2.2.2.2.1))
def stepF (K : Nat → Lc → List Vl → Hp → Nat → Nat → Prop) (C : Nat → Lc → Hp → (Option Vl → Hp → Prop) → Prop) (r : MR) (pc len : Nat) (ins : Instr) (ls : Lc) (st : List Vl) (h : Hp) (cs sl : Nat) (Q : Option Vl → Hp → Prop) : Prop :=
  match ins with
  | .iconst n => len = 1 ∧ inI n ∧ K (pc + 1) ls (.inl n :: st) h cs sl
  | .lconst n => len = 1 ∧ K (pc + 1) ls (.inr (.inl (Int64.ofNat (n : Nat))) :: st) h cs sl
  | .bipush n => len = 2 ∧ K (pc + 2) ls (.inl (Int8.ofInt n).toInt32.toInt :: st) h cs sl
  | .sipush n => len = 3 ∧ K (pc + 3) ls (.inl (Int16.ofInt n).toInt32.toInt :: st) h cs sl
  | .ldc i => len = 2 ∧ match r.2.2.2.2.1, nSt.lookup i with
    | 9, some k => K (pc + 2) ls (.inr (.inr (some (3 + k))) :: st) h cs sl
    | _, _ => False
  | .ldc2_w i => len = 3 ∧ match lk2 nC2 r.2.2.2.2.1 i with
    | some x => K (pc + 3) ls (.inr (.inl x) :: st) h cs sl
    | none => False
  | .iload i => len = 2 ∧ gI ls i fun x => K (pc + 2) ls (.inl x :: st) h cs sl
  | .iload_n i => len = 1 ∧ gI ls i fun x => K (pc + 1) ls (.inl x :: st) h cs sl
  | .lload i => len = 2 ∧ gL ls i fun x => K (pc + 2) ls (.inr (.inl x) :: st) h cs sl
  | .lload_n i => len = 1 ∧ gL ls i fun x => K (pc + 1) ls (.inr (.inl x) :: st) h cs sl
  | .aload i => len = 2 ∧ gR ls i fun x => K (pc + 2) ls (.inr (.inr x) :: st) h cs sl
  | .aload_n i => len = 1 ∧ gR ls i fun x => K (pc + 1) ls (.inr (.inr x) :: st) h cs sl
  | .istore i => len = 2 ∧ i < ls.length ∧ noL ls i = true ∧ pI st fun x st => K (pc + 2) (ls.set i (some (.inl x))) st h cs sl
  | .istore_n i => len = 1 ∧ (i : Nat) < ls.length ∧ noL ls i = true ∧ pI st fun x st => K (pc + 1) (ls.set i (some (.inl x))) st h cs sl
  | .lstore i => len = 2 ∧ i + 1 < ls.length ∧ noL ls i = true ∧ pL st fun x st => K (pc + 2) ((ls.set i (some (.inr (.inl x)))).set (i + 1) none) st h cs sl
  | .lstore_n i => len = 1 ∧ (i : Nat) + 1 < ls.length ∧ noL ls i = true ∧ pL st fun x st => K (pc + 1) ((ls.set i (some (.inr (.inl x)))).set (i + 1) none) st h cs sl
  | .astore i => len = 2 ∧ i < ls.length ∧ noL ls i = true ∧ pA st fun x st => K (pc + 2) (ls.set i (some (.inr (.inr (some x))))) st h cs sl
  | .astore_n i => len = 1 ∧ (i : Nat) < ls.length ∧ noL ls i = true ∧ pA st fun x st => K (pc + 1) (ls.set i (some (.inr (.inr (some x))))) st h cs sl
  | .iinc i n => len = 3 ∧ i < ls.length ∧ noL ls i = true ∧ gI ls i fun x => K (pc + 3) (ls.set i (some (.inl (op2 (· + ·) x n)))) st h cs sl
  | .iadd => len = 1 ∧ pI st fun y st => pI st fun x st => K (pc + 1) ls (.inl (op2 (· + ·) x y) :: st) h cs sl
  | .isub => len = 1 ∧ pI st fun y st => pI st fun x st => K (pc + 1) ls (.inl (op2 (· - ·) x y) :: st) h cs sl
  | .imul => len = 1 ∧ pI st fun y st => pI st fun x st => K (pc + 1) ls (.inl (op2 (· * ·) x y) :: st) h cs sl
  | .idiv => len = 1 ∧ pI st fun y st => pI st fun x st => y ≠ 0 ∧ K (pc + 1) ls (.inl (op2 (· / ·) x y) :: st) h cs sl
  | .irem => len = 1 ∧ pI st fun y st => pI st fun x st => y ≠ 0 ∧ K (pc + 1) ls (.inl (op2 (fun a b => a - a / b * b) x y) :: st) h cs sl
  | .iand => len = 1 ∧ pI st fun y st => pI st fun x st => K (pc + 1) ls (.inl (op2 (· &&& ·) x y) :: st) h cs sl
  | .ior => len = 1 ∧ pI st fun y st => pI st fun x st => K (pc + 1) ls (.inl (op2 (· ||| ·) x y) :: st) h cs sl
  | .ishl => len = 1 ∧ pI st fun y st => pI st fun x st => K (pc + 1) ls (.inl (op2 (fun a b => a <<< (b &&& 31)) x y) :: st) h cs sl
  | .ishr => len = 1 ∧ pI st fun y st => pI st fun x st => K (pc + 1) ls (.inl (op2 (fun a b => a >>> (b &&& 31)) x y) :: st) h cs sl
  | .ineg => len = 1 ∧ pI st fun x st => K (pc + 1) ls (.inl (-(Int32.ofInt x)).toInt :: st) h cs sl
  | .ladd => len = 1 ∧ pL st fun y st => pL st fun x st => K (pc + 1) ls (.inr (.inl (x + y)) :: st) h cs sl
  | .lsub => len = 1 ∧ pL st fun y st => pL st fun x st => K (pc + 1) ls (.inr (.inl (x - y)) :: st) h cs sl
  | .lmul => len = 1 ∧ pL st fun y st => pL st fun x st => K (pc + 1) ls (.inr (.inl (x * y)) :: st) h cs sl
  | .land => len = 1 ∧ pL st fun y st => pL st fun x st => K (pc + 1) ls (.inr (.inl (x &&& y)) :: st) h cs sl
  | .lor => len = 1 ∧ pL st fun y st => pL st fun x st => K (pc + 1) ls (.inr (.inl (x ||| y)) :: st) h cs sl
  | .lxor => len = 1 ∧ pL st fun y st => pL st fun x st => K (pc + 1) ls (.inr (.inl (x ^^^ y)) :: st) h cs sl
  | .lshl => len = 1 ∧ pI st fun y st => pL st fun x st => K (pc + 1) ls (.inr (.inl (x <<< ((Int32.ofInt y).toInt64 &&& 63))) :: st) h cs sl
  | .lshr => len = 1 ∧ pI st fun y st => pL st fun x st => K (pc + 1) ls (.inr (.inl (x >>> ((Int32.ofInt y).toInt64 &&& 63))) :: st) h cs sl
  | .lushr => len = 1 ∧ pI st fun y st => pL st fun x st => K (pc + 1) ls (.inr (.inl (x.toUInt64 >>> ((Int32.ofInt y).toInt64.toUInt64 &&& Int64.toUInt64 63)).toInt64) :: st) h cs sl
  | .lcmp => len = 1 ∧ pL st fun y st => pL st fun x st => K (pc + 1) ls (.inl (lg_cmp x y).toInt :: st) h cs sl
  | .i2l => len = 1 ∧ pI st fun x st => K (pc + 1) ls (.inr (.inl (Int32.ofInt x).toInt64) :: st) h cs sl
  | .l2i => len = 1 ∧ pL st fun x st => K (pc + 1) ls (.inl x.toInt32.toInt :: st) h cs sl
  | .i2c => len = 1 ∧ pI st fun x st => K (pc + 1) ls (.inl ((Int32.ofInt x).toUInt32 % 65536).toInt32.toInt :: st) h cs sl
  | .dup => len = 1 ∧ pV st fun v st => vcat v = 1 ∧ K (pc + 1) ls (v :: v :: st) h cs sl
  | .pop => len = 1 ∧ pV st fun v st => vcat v = 1 ∧ K (pc + 1) ls st h cs sl
  | .dup2 => len = 1 ∧ pV st fun v st => pV st fun w st => vcat v = 1 ∧ vcat w = 1 ∧ K (pc + 1) ls (v :: w :: v :: w :: st) h cs sl
  | .goto off => len = 3 ∧ jmp (fun p => K p ls st h cs sl) pc off
  | .ifCond c off => len = 3 ∧ pI st fun x st => (cnd c x 0 → jmp (fun p => K p ls st h cs sl) pc off) ∧ (¬ cnd c x 0 → K (pc + 3) ls st h cs sl)
  | .if_icmp c off => len = 3 ∧ pI st fun y st => pI st fun x st => (cnd c x y → jmp (fun p => K p ls st h cs sl) pc off) ∧ (¬ cnd c x y → K (pc + 3) ls st h cs sl)
  | .tableswitch d lo hi offs => pI st fun x st => ((x < lo ∨ hi < x) → jmp (fun p => K p ls st h cs sl) pc d) ∧ (¬ (x < lo ∨ hi < x) → ∃ off, offs[(x - lo).toNat]? = some off ∧ jmp (fun p => K p ls st h cs sl) pc off)
  | .lookupswitch d ps => ((ps.toList.zip (ps.toList.drop 1)).all (fun (a, next) => a.1 < next.1) = true) ∧ pI st fun x st => jmp (fun p => K p ls st h cs sl) pc (Op.lookupswitch.offset ps.toList d x)
  | .getstatic i => len = 3 ∧ match lk2 nGs r.2.2.2.2.1 i with
    | some v => K (pc + 3) ls (v :: st) h cs sl
    | none => False
  | .getfield i => len = 3 ∧ pA st fun a st => match lk2 nFd r.2.2.2.2.1 i with
    | some (ci, k, t, _) => (∃ n, h.1[a]? = some (ci, n)) ∧ K (pc + 3) ls ((if t = 3 then .inr (.inr (h.2.2.1 a k)) else if t = 2 then .inr (.inl (h.2.2.2 a k)) else .inl (h.2.1 a k)) :: st) h cs sl
    | none => False
  | .putfield i => len = 3 ∧ match lk2 nFd r.2.2.2.2.1 i with
    | some (ci, k, t, f) => (f = false ∨ (r.1.name = "<init>" ∧ ci = r.2.2.2.2.1)) ∧
      (if t = 3 then pV st fun v st => pA st fun a st => match v with
        | .inr (.inr x) => x ≠ some 27 ∧ ci < 100 ∧ (∃ n, h.1[a]? = some (ci, n)) ∧ K (pc + 3) ls st (putR h a k x) cs sl
        | _ => False
      else if t = 2 then pL st fun x st => pA st fun a st => ci < 100 ∧ (∃ n, h.1[a]? = some (ci, n)) ∧ K (pc + 3) ls st (putL h a k x) cs sl
      else pI st fun x st => pA st fun a st => (t = 1 → x = 0 ∨ x = 1) ∧ ci < 100 ∧ (∃ n, h.1[a]? = some (ci, n)) ∧ K (pc + 3) ls st (putI h a k x) cs sl)
    | none => False
  | .new i => len = 3 ∧ match lk2 nNw r.2.2.2.2.1 i with
    | some ci => match nFT[ci]? with
      | some ts => cs + 1 ≤ r.2.2.2.2.2.2.2.1 ∧ sl + ts.length ≤ r.2.2.2.2.2.2.2.2.1 ∧ K (pc + 3) ls (.inr (.inr (some h.1.length)) :: st) (alc h ci ts.length) (cs + 1) (sl + ts.length)
      | none => False
    | none => False
  | .newarray t => len = 2 ∧ pI st fun n st => 0 ≤ n ∧ n ≤ 100000 ∧ cs + 1 ≤ r.2.2.2.2.2.2.2.1 ∧ sl + n.toNat ≤ r.2.2.2.2.2.2.2.2.1 ∧ match t with
    | .int => K (pc + 2) ls (.inr (.inr (some h.1.length)) :: st) (alc h 100 n.toNat) (cs + 1) (sl + n.toNat)
    | .boolean => K (pc + 2) ls (.inr (.inr (some h.1.length)) :: st) (alc h 101 n.toNat) (cs + 1) (sl + n.toNat)
    | .long => K (pc + 2) ls (.inr (.inr (some h.1.length)) :: st) (alc h 102 n.toNat) (cs + 1) (sl + n.toNat)
    | _ => False
  | .anewarray i => len = 3 ∧ pI st fun n st => 0 ≤ n ∧ n ≤ 100000 ∧ cs + 1 ≤ r.2.2.2.2.2.2.2.1 ∧ sl + n.toNat ≤ r.2.2.2.2.2.2.2.2.1 ∧ match lk2 nNw r.2.2.2.2.1 i with
    | some 3 => K (pc + 3) ls (.inr (.inr (some h.1.length)) :: st) (alc h 110 n.toNat) (cs + 1) (sl + n.toNat)
    | some 1 => K (pc + 3) ls (.inr (.inr (some h.1.length)) :: st) (alc h 111 n.toNat) (cs + 1) (sl + n.toNat)
    | _ => False
  | .multianewarray i d => len = 4 ∧ i = 31 ∧ d = 2 ∧ r.2.2.2.2.1 = 0 ∧ pI st fun k st => pI st fun n st => 0 ≤ n ∧ n ≤ 100000 ∧ 0 ≤ k ∧ k ≤ 100000 ∧ cs + (1 + n.toNat) ≤ r.2.2.2.2.2.2.2.1 ∧ sl + (n.toNat + n.toNat * k.toNat) ≤ r.2.2.2.2.2.2.2.2.1 ∧
    K (pc + 4) ls (.inr (.inr (some h.1.length)) :: st) (alcG h n.toNat k.toNat) (cs + 1 + n.toNat) (sl + n.toNat + n.toNat * k.toNat)
  | .arraylength => len = 1 ∧ pA st fun a st => ∃ k n, h.1[a]? = some (k, n) ∧ 100 ≤ k ∧ k ≤ 112 ∧ n < 2147483648 ∧ K (pc + 1) ls (.inl n :: st) h cs sl
  | .iaload => len = 1 ∧ pI st fun i st => pA st fun a st => (∃ n, h.1[a]? = some (100, n) ∧ inA i n) ∧ K (pc + 1) ls (.inl (h.2.1 a i.toNat) :: st) h cs sl
  | .baload => len = 1 ∧ pI st fun i st => pA st fun a st => (∃ k n, h.1[a]? = some (k, n) ∧ (k = 101 ∨ k = 103) ∧ inA i n) ∧ K (pc + 1) ls (.inl (h.2.1 a i.toNat) :: st) h cs sl
  | .laload => len = 1 ∧ pI st fun i st => pA st fun a st => (∃ n, h.1[a]? = some (102, n) ∧ inA i n) ∧ K (pc + 1) ls (.inr (.inl (h.2.2.2 a i.toNat)) :: st) h cs sl
  | .aaload => len = 1 ∧ pI st fun i st => pA st fun a st => (∃ k n, h.1[a]? = some (k, n) ∧ (k = 110 ∨ k = 111 ∨ k = 112) ∧ inA i n) ∧ K (pc + 1) ls (.inr (.inr (h.2.2.1 a i.toNat)) :: st) h cs sl
  | .iastore => len = 1 ∧ pI st fun x st => pI st fun i st => pA st fun a st => 28 ≤ a ∧ (∃ n, h.1[a]? = some (100, n) ∧ inA i n) ∧ K (pc + 1) ls st (putI h a i.toNat x) cs sl
  | .bastore => len = 1 ∧ pI st fun x st => pI st fun i st => pA st fun a st => (x = 0 ∨ x = 1) ∧ 28 ≤ a ∧ (∃ n, h.1[a]? = some (101, n) ∧ inA i n) ∧ K (pc + 1) ls st (putI h a i.toNat x) cs sl
  | .lastore => len = 1 ∧ pL st fun x st => pI st fun i st => pA st fun a st => 28 ≤ a ∧ (∃ n, h.1[a]? = some (102, n) ∧ inA i n) ∧ K (pc + 1) ls st (putL h a i.toNat x) cs sl
  | .aastore => len = 1 ∧ pA st fun x st => pI st fun i st => pA st fun a st => (∃ k n ci n', h.1[a]? = some (k, n) ∧ h.1[x]? = some (ci, n') ∧ ((k = 110 ∧ ci = 3) ∨ (k = 111 ∧ ci = 1)) ∧ inA i n) ∧ K (pc + 1) ls st (putR h a i.toNat (some x)) cs sl
  | .ireturn => len = 1 ∧ cs ≤ r.2.2.2.2.2.2.2.1 ∧ sl ≤ r.2.2.2.2.2.2.2.2.1 ∧ pI st fun x st => st = [] ∧ (∃ t, r.2.2.2.1 = some t ∧ narrow t (.int (Int32.ofInt x)) = .int (Int32.ofInt x)) ∧ Q (some (.inl x)) h
  | .lreturn => len = 1 ∧ cs ≤ r.2.2.2.2.2.2.2.1 ∧ sl ≤ r.2.2.2.2.2.2.2.2.1 ∧ pL st fun x st => st = [] ∧ r.2.2.2.1 = some .long ∧ Q (some (.inr (.inl x))) h
  | .areturn => len = 1 ∧ cs ≤ r.2.2.2.2.2.2.2.1 ∧ sl ≤ r.2.2.2.2.2.2.2.2.1 ∧ pA st fun x st => st = [] ∧ (∃ c, r.2.2.2.1 = some (.object c)) ∧ Q (some (.inr (.inr (some x)))) h
  | .return_ => len = 1 ∧ cs ≤ r.2.2.2.2.2.2.2.1 ∧ sl ≤ r.2.2.2.2.2.2.2.2.1 ∧ st = [] ∧ r.2.2.2.1 = none ∧ Q none h
  | .invokestatic i => len = 3 ∧ match lk2 nAb r.2.2.2.2.1 i with
   | some () => pI st fun x st => 1 ≤ r.2.2.2.2.2.1 ∧ csum st + 13 ≤ r.2.2.2.2.2.2.1 ∧ cs ≤ r.2.2.2.2.2.2.2.1 ∧ sl ≤ r.2.2.2.2.2.2.2.2.1 ∧ K (pc + 3) ls (.inl (if (0 : Int32) ≤ Int32.ofInt x then Int32.ofInt x else 0 - Int32.ofInt x).toInt :: st) h cs sl
   | none => match lk2 nLk r.2.2.2.2.1 i with
    | some j' => ∃ r', mrec j' = some r' ∧ r'.2.2.2.2.2.2.2.2.2.2 = 0 ∧ callT C (fun st h cs sl => K (pc + 3) ls st h cs sl) r j' r' r'.2.2.2.2.2.2.2.2.2.1 st h cs sl
    | none => match lk2 nCp r.2.2.2.2.1 i with
      | some () => pI st fun n st => pI st fun dp st => pA st fun b st => pI st fun sp st => pA st fun a st =>
        1 ≤ r.2.2.2.2.2.1 ∧ csum st + 64 ≤ r.2.2.2.2.2.2.1 ∧ 0 ≤ n ∧ 0 ≤ dp ∧ 0 ≤ sp ∧ 28 ≤ a ∧ 28 ≤ b ∧ (∃ n0 n1, h.1[a]? = some (100, n0) ∧ h.1[b]? = some (100, n1) ∧ sp + n ≤ n0 ∧ dp + n ≤ n1) ∧
        K (pc + 3) ls st (cpyI h a b sp.toNat dp.toNat n.toNat) cs sl
      | none => False
  | .invokevirtual i => len = 3 ∧ match lk2 nLk r.2.2.2.2.1 i with
    | some j' => ∃ r' a n, mrec j' = some r' ∧ r'.2.2.2.2.2.2.2.2.2.2 = 1 ∧ (st.drop r'.2.2.2.2.2.2.2.2.2.1).head? = some (.inr (.inr (some a))) ∧ h.1[a]? = some (rkd r'.2.2.2.2.1, n) ∧ callT C (fun st h cs sl => K (pc + 3) ls st h cs sl) r j' r' (r'.2.2.2.2.2.2.2.2.2.1 + 1) st h cs sl
    | none => False
  | .invokespecial i => len = 3 ∧ match lk2 nOi r.2.2.2.2.1 i with
    | some () => pA st fun a st => a ≠ 27 ∧ 1 ≤ r.2.2.2.2.2.1 ∧ csum st + 12 ≤ r.2.2.2.2.2.2.1 ∧ K (pc + 3) ls st h cs sl
    | none => match (lk2 nLk r.2.2.2.2.1 i).or (lk2 nNs r.2.2.2.2.1 i) with
      | some j' => ∃ r' a, mrec j' = some r' ∧ r'.2.2.2.2.2.2.2.2.2.2 = 2 ∧ (st.drop r'.2.2.2.2.2.2.2.2.2.1).head? = some (.inr (.inr (some a))) ∧ a ≠ 27 ∧ callT C (fun st h cs sl => K (pc + 3) ls st h cs sl) r j' r' (r'.2.2.2.2.2.2.2.2.2.1 + 1) st h cs sl
      | none => False
  | _ => False
def wp : Nat → Nat → Nat → Lc → List Vl → Hp → Nat → Nat → (Option Vl → Hp → Prop) → Prop
  | 0, _, _, _, _, _, _, _, _ => False
  | n + 1, j, pc, ls, st, h, cs, sl, Q => match mrec j, fetch j pc with
    | some r, some (ins, len) => stepF (fun pc ls st h cs sl => wp n j pc ls st h cs sl Q) (fun j' ls h Q' => wp n j' 0 ls [] h 0 0 Q') r pc len ins ls st h cs sl Q
    | _, _ => False
theorem wp_succ (n j pc : Nat) (ls : Lc) (st : List Vl) (h : Hp) (cs sl : Nat) (Q : Option Vl → Hp → Prop) : wp (n + 1) j pc ls st h cs sl Q = (match mrec j, fetch j pc with
    | some r, some (ins, len) => stepF (fun pc ls st h cs sl => wp n j pc ls st h cs sl Q) (fun j' ls h Q' => wp n j' 0 ls [] h 0 0 Q') r pc len ins ls st h cs sl Q
    | _, _ => False) := rfl
