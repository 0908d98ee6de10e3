/-! THE PURE MACHINE: a method's bytecode as a function of its arguments and of a list of cells; a reference is a cell's place in the list -/
abbrev hzMem : Type := List ((Nat × vp_A) ⊕ (Nat × List Value))
def hz_len : Instr → Nat
  | .iload _ => 2 | .aload _ => 2 | .lload _ => 2 | .istore _ => 2 | .astore _ => 2 | .lstore _ => 2 | .bipush _ => 2 | .ldc _ => 2
  | .sipush _ => 3 | .ldc_w _ => 3 | .ldc2_w _ => 3 | .iinc _ _ => 3 | .if_icmp _ _ => 3 | .ifCond _ _ => 3 | .goto _ => 3 | .getfield _ => 3 | .putfield _ => 3
  | .invokevirtual _ => 3 | .invokestatic _ => 3
  | _ => 1
def hz_lk {α : Type} (pc : Nat) : List (Nat × α) → Option α
  | [] => none
  | e :: B => bif Nat.beq pc e.1 then some e.2 else hz_lk pc B
def hz_fetch (k pc : Nat) : Option (Instr × Int × Nat × Nat × Nat) := hz_lk pc ((hzCf k).getD (pc / 32) [])
/-- what the stack alone decides -/
def hz_stk (i : Instr) (a : Int) (st : List Value) : Option (List Value) := match i, st with
  | .iconst _, r => some (.int (Int32.ofInt a) :: r)
  | .bipush _, r => some (.int (Int32.ofInt a) :: r)
  | .sipush _, r => some (.int (Int32.ofInt a) :: r)
  | .ldc _, r => some (.int (Int32.ofInt a) :: r)
  | .ldc_w _, r => some (.int (Int32.ofInt a) :: r)
  | .lconst _, r => some (.long (Int64.ofInt a) :: r)
  | .ldc2_w _, r => some (.long (Int64.ofInt a) :: r)
  | .iadd, .int y :: .int x :: r => some (.int (x + y) :: r)
  | .isub, .int y :: .int x :: r => some (.int (x - y) :: r)
  | .imul, .int y :: .int x :: r => some (.int (x * y) :: r)
  | .idiv, .int y :: .int x :: r => if y = 0 then none else some (.int (x / y) :: r)
  | .irem, .int y :: .int x :: r => if y = 0 then none else some (.int (x - x / y * y) :: r)
  | .ineg, .int x :: r => some (.int (-x) :: r)
  | .iand, .int y :: .int x :: r => some (.int (x &&& y) :: r)
  | .ior, .int y :: .int x :: r => some (.int (x ||| y) :: r)
  | .ixor, .int y :: .int x :: r => some (.int (x ^^^ y) :: r)
  | .ishl, .int y :: .int x :: r => some (.int (x <<< (y &&& 31)) :: r)
  | .ishr, .int y :: .int x :: r => some (.int (x >>> (y &&& 31)) :: r)
  | .iushr, .int y :: .int x :: r => some (.int (x.toUInt32 >>> (y.toUInt32 &&& Int32.toUInt32 31)).toInt32 :: r)
  | .i2l, .int x :: r => some (.long x.toInt64 :: r)
  | .i2b, .int x :: r => some (.int x.toInt8.toInt32 :: r)
  | .i2s, .int x :: r => some (.int x.toInt16.toInt32 :: r)
  | .ladd, .long y :: .long x :: r => some (.long (x + y) :: r)
  | .lsub, .long y :: .long x :: r => some (.long (x - y) :: r)
  | .lmul, .long y :: .long x :: r => some (.long (x * y) :: r)
  | .ldiv, .long y :: .long x :: r => if y = 0 then none else some (.long (x / y) :: r)
  | .lrem, .long y :: .long x :: r => if y = 0 then none else some (.long (x - x / y * y) :: r)
  | .lcmp, .long y :: .long x :: r => some (.int (lg_cmp x y) :: r)
  | .dup, v :: r => if v.category = 1 then some (v :: v :: r) else none
  | .dup2, v :: w :: r => if v.category = 1 ∧ w.category = 1 then some (v :: w :: v :: w :: r) else none
  | .pop, v :: r => if v.category = 1 then some r else none
  | .pop2, v :: r => if v.category = 2 then some r else none
  | _, _ => none
def hz_cmp (c : Jvm.ClassFile.Cond) (v w : Int32) : Bool := match c with
  | .eq => decide (v = w)
  | .ne => !decide (v = w)
  | .lt => decide (v < w)
  | .ge => decide (w ≤ v)
  | .gt => decide (w < v)
  | .le => decide (v ≤ w)
def hz_tgt (pc : Nat) (off : Int) : Option Nat := if 0 ≤ (pc : Int) + off then some ((pc : Int) + off).toNat else none
def hz_br (i : Instr) (pc x : Nat) (st : List Value) : Option (Nat × List Value) := match i, st with
  | .goto _, r => some (x, r)
  | .ifCond c _, .int v :: r => some (if hz_cmp c v 0 then x else pc + 3, r)
  | .if_icmp c _, .int w :: .int v :: r => some (if hz_cmp c v w then x else pc + 3, r)
  | .tableswitch d lo hi offs, .int v :: r => if v.toInt < lo ∨ hi < v.toInt then (hz_tgt pc d).map (fun t => (t, r)) else (offs[(v.toInt - lo).toNat]?).bind (fun o => (hz_tgt pc o).map (fun t => (t, r)))
  | .lookupswitch d ps, .int v :: r => if (ps.toList.zip (ps.toList.drop 1)).all (fun (a, next) => a.1 < next.1) = true then (hz_tgt pc (Op.lookupswitch.offset ps.toList d v.toInt)).map (fun t => (t, r)) else none
  | _, _ => none
/-- the locals behind a store: what a long before it or behind it took is gone -/
def hz_cut (L : List (Option Value)) (i : Nat) : List (Option Value) := match i with
  | 0 => L
  | j + 1 => match L[j]? with
    | some (some w) => if w.category = 2 then L.set j none else L
    | _ => L
def hz_put (L : List (Option Value)) (i : Nat) (v : Value) : List (Option Value) :=
  if v.category = 2 then ((hz_cut L i).set i (some v)).set (i + 1) none else (hz_cut L i).set i (some v)
def hz_ldi (L : List (Option Value)) (i : Nat) (r : List Value) : Option (List (Option Value) × List Value) := match L[i]? with
  | some (some (.int x)) => some (L, .int x :: r)
  | _ => none
def hz_lda (L : List (Option Value)) (i : Nat) (r : List Value) : Option (List (Option Value) × List Value) := match L[i]? with
  | some (some (.ref x)) => some (L, .ref x :: r)
  | _ => none
def hz_ldl (L : List (Option Value)) (i : Nat) (r : List Value) : Option (List (Option Value) × List Value) := match L[i]? with
  | some (some (.long x)) => some (L, .long x :: r)
  | _ => none
def hz_sto (L : List (Option Value)) (i : Nat) (v : Value) (r : List Value) : Option (List (Option Value) × List Value) :=
  if i + (v.category - 1) < L.length then some (hz_put L i v, r) else none
def hz_loc (i : Instr) (L : List (Option Value)) (st : List Value) : Option (List (Option Value) × List Value) := match i, st with
  | .iload_n k, r => hz_ldi L k r
  | .iload k, r => hz_ldi L k r
  | .aload_n k, r => hz_lda L k r
  | .aload k, r => hz_lda L k r
  | .lload_n k, r => hz_ldl L k r
  | .lload k, r => hz_ldl L k r
  | .istore_n k, .int x :: r => hz_sto L k (.int x) r
  | .istore k, .int x :: r => hz_sto L k (.int x) r
  | .astore_n k, .ref x :: r => hz_sto L k (.ref x) r
  | .astore k, .ref x :: r => hz_sto L k (.ref x) r
  | .lstore_n k, .long x :: r => hz_sto L k (.long x) r
  | .lstore k, .long x :: r => hz_sto L k (.long x) r
  | .iinc k n, r => match L[k]? with
    | some (some (.int x)) => hz_sto L k (.int (x + Int32.ofInt n)) r
    | _ => none
  | _, _ => none
def hz_in (i : Int32) (n : Nat) : Bool := decide (0 ≤ i.toInt) && decide (i.toInt < n)
/-- a field that may be written behind the constructor, with a value of its type -/
def hz_fit (x y : Nat) (v : Value) : Bool := match hzCl[x]? with
  | some (_, T, N) => decide (y < N) && !(T y).2.2.2 && (match (T y).2.2.1, v with
    | "I", .int _ => true
    | "Z", .int z => decide (z = 0) || decide (z = 1)
    | _, _ => false)
  | none => false
def hz_mem (i : Instr) (x y : Nat) (st : List Value) (M : hzMem) : Option (List Value × hzMem) := match i, st with
  | .getfield _, .ref a :: r => match M[a]? with
    | some (.inr (c, fs)) => if c = x then (fs[y]?).map (fun v => (v :: r, M)) else none
    | _ => none
  | .putfield _, v :: .ref a :: r => match M[a]? with
    | some (.inr (c, fs)) => if c = x ∧ hz_fit x y v = true ∧ y < fs.length then some (r, M.set a (.inr (c, fs.set y v))) else none
    | _ => none
  | .iaload, .int j :: .ref a :: r => match M[a]? with
    | some (.inl (t, n, .inl f)) => if t = 0 ∧ hz_in j n = true then some (.int (f j.toNatClampNeg) :: r, M) else none
    | _ => none
  | .iastore, .int v :: .int j :: .ref a :: r => match M[a]? with
    | some (.inl (t, n, .inl f)) => if t = 0 ∧ hz_in j n = true then some (r, M.set a (.inl (t, n, .inl (upd f j.toNatClampNeg v)))) else none
    | _ => none
  | .laload, .int j :: .ref a :: r => match M[a]? with
    | some (.inl (t, n, .inr (.inl f))) => if t = 1 ∧ hz_in j n = true then some (.long (f j.toNatClampNeg) :: r, M) else none
    | _ => none
  | .aaload, .int j :: .ref a :: r => match M[a]? with
    | some (.inl (t, n, .inr (.inr (.inr (.inr f))))) => if t = 2 ∧ hz_in j n = true then (f j.toNatClampNeg).map (fun q => (.ref q :: r, M)) else none
    | _ => none
  | _, _ => none
def hz_acp (st : List Value) (M : hzMem) : Option (List Value × hzMem) := match st with
  | .int n :: .int dp :: .ref b :: .int sp :: .ref a :: r => match M[a]?, M[b]? with
    | some (.inl (t, n0, .inl f)), some (.inl (u, n1, .inl g)) =>
      if t = 0 ∧ u = 0 ∧ ¬ sp < 0 ∧ ¬ dp < 0 ∧ ¬ n < 0 ∧ sp.toNatClampNeg + n.toNatClampNeg ≤ n0 ∧ dp.toNatClampNeg + n.toNatClampNeg ≤ n1 ∧ (r.map fun v => v.category).sum ≤ 8 then
        some (r, M.set b (.inl (u, n1, .inl (va_cpy f g sp.toNatClampNeg dp.toNatClampNeg n.toNatClampNeg)))) else none
    | _, _ => none
  | _ => none
def hz_kind : Instr → Nat
  | .iload_n _ => 1 | .iload _ => 1 | .aload_n _ => 1 | .aload _ => 1 | .lload_n _ => 1 | .lload _ => 1
  | .istore_n _ => 1 | .istore _ => 1 | .astore_n _ => 1 | .astore _ => 1 | .lstore_n _ => 1 | .lstore _ => 1 | .iinc _ _ => 1
  | .goto _ => 2 | .ifCond _ _ => 2 | .if_icmp _ _ => 2 | .tableswitch _ _ _ _ => 2 | .lookupswitch _ _ => 2
  | .getfield _ => 3 | .putfield _ => 3 | .iaload => 3 | .iastore => 3 | .laload => 3 | .aaload => 3
  | .ireturn => 4 | .lreturn => 4 | .return_ => 4
  | .invokevirtual _ => 5 | .invokestatic _ => 6
  | _ => 0
def hz_lay : List Value → List (Option Value)
  | [] => []
  | v :: vs => if v.category = 2 then some v :: none :: hz_lay vs else some v :: hz_lay vs
def hz_ent (nL : Nat) (As : List Value) : List (Option Value) := hz_lay As ++ List.replicate (nL - (hz_lay As).length) none
def hz_ret (i : Instr) (ret : Option FieldType) (st : List Value) : Option (Option Value) := match i, st with
  | .ireturn, [.int v] => match ret with
    | some .int => some (some (.int v))
    | some .boolean => if v = 0 ∨ v = 1 then some (some (.int v)) else none
    | _ => none
  | .lreturn, [.long v] => match ret with
    | some .long => some (some (.long v))
    | _ => none
  | .return_, [] => match ret with
    | none => some none
    | _ => none
  | _, _ => none
/-- the receiver is an object of the method's class -/
def hz_rcv (rc : Nat) (As : List Value) (M : hzMem) : Bool := match As with
  | .ref q :: _ => (match M[q]? with
    | some (.inr (c, _)) => decide (c = rc)
    | _ => false)
  | _ => false
/-- a call: 'ext' tells what methods do that throw and catch; all others run -/
def hz_inv (rec : Nat → Nat → List (Option Value) → List Value → hzMem → Nat → Option (Option Value × hzMem)) (ext : Nat → List Value → hzMem → Option (Option (Option Value × hzMem))) (virt : Bool) (k pc : Nat) (a : Int) (x y : Nat) (L : List (Option Value)) (st : List Value) (M : hzMem) (b : Nat) : Option (Option Value × hzMem) :=
  if a = -3 then (match hz_acp st M with
    | some (st', M') => rec k (pc + 3) L st' M' b
    | none => none)
  else match hzM[x]? with
    | none => none
    | some (_, _, nL, _, rc, _, _, cs, _) =>
      if (if virt = true then hz_rcv rc (st.take y).reverse M else decide (rc = 99)) = true ∧ y ≤ st.length ∧ ((st.drop y).map fun v => v.category).sum ≤ 8 ∧ cs ≤ b ∧ (hz_lay (st.take y)).length ≤ nL then
        match (match ext x (st.take y).reverse M with
          | some o => o
          | none => rec x 0 (hz_ent nL (st.take y).reverse) [] M cs) with
        | some (rv, M') => rec k (pc + 3) L (rv.toList ++ st.drop y) M' (b - cs)
        | none => none
      else none
def hz_run (ext : Nat → List Value → hzMem → Option (Option (Option Value × hzMem))) : Nat → Nat → Nat → List (Option Value) → List Value → hzMem → Nat → Option (Option Value × hzMem)
  | 0, _, _, _, _, _, _ => none
  | n + 1, k, pc, L, st, M, b => match hz_fetch k pc with
    | none => none
    | some (i, a, x, y, _) => match hz_kind i with
      | 0 => (match hz_stk i a st with
        | some st' => hz_run ext n k (pc + hz_len i) L st' M b
        | none => none)
      | 1 => (match hz_loc i L st with
        | some (L', st') => hz_run ext n k (pc + hz_len i) L' st' M b
        | none => none)
      | 2 => (match hz_br i pc x st with
        | some (pc', st') => hz_run ext n k pc' L st' M b
        | none => none)
      | 3 => (match hz_mem i x y st M with
        | some (st', M') => hz_run ext n k (pc + hz_len i) L st' M' b
        | none => none)
      | 4 => (match hzM[k]? with
        | some (_, _, _, ret, _) => (hz_ret i ret st).map (fun v => (v, M))
        | none => none)
      | 5 => hz_inv (fun k pc L st M b => hz_run ext n k pc L st M b) ext true k pc a x y L st M b
      | 6 => hz_inv (fun k pc L st M b => hz_run ext n k pc L st M b) ext false k pc a x y L st M b
      | _ => none
