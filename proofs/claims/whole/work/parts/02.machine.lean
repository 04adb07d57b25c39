/-! ===== the abstract machine: a functional interpreter over a typed memory; references are numbers of cells ===== -/
abbrev AI : Type := Instr × Nat × Nat × Nat
abbrev Mem : Type := Nat × Nat × (Nat → Nat × Nat) × (Nat → Nat → Option Nat) × (Nat → Nat → Int32) × (Nat → Nat → Int64)
abbrev Ans : Type := Option (Option Value × Mem)
abbrev Out : Type := (Option Value × Mem) ⊕ (Nat × List Value × List Value × Mem)
def m_n (m : Mem) : Nat := m.1
def m_z (m : Mem) : Nat := m.2.1
def m_sh (m : Mem) : Nat → Nat × Nat := m.2.2.1
def m_R (m : Mem) : Nat → Nat → Option Nat := m.2.2.2.1
def m_I (m : Mem) : Nat → Nat → Int32 := m.2.2.2.2.1
def m_J (m : Mem) : Nat → Nat → Int64 := m.2.2.2.2.2
def m_wI (m : Mem) (a k : Nat) (v : Int32) : Mem := (m_n m, m_z m, m_sh m, m_R m, va_up (m_I m) a (va_up (m_I m a) k v), m_J m)
def m_wJ (m : Mem) (a k : Nat) (v : Int64) : Mem := (m_n m, m_z m, m_sh m, m_R m, m_I m, va_up (m_J m) a (va_up (m_J m a) k v))
def m_wR (m : Mem) (a k : Nat) (v : Option Nat) : Mem := (m_n m, m_z m, m_sh m, va_up (m_R m) a (va_up (m_R m a) k v), m_I m, m_J m)
def m_rI (m : Mem) (a : Nat) (f : Nat → Int32) : Mem := (m_n m, m_z m, m_sh m, m_R m, va_up (m_I m) a f, m_J m)
def m_rJ (m : Mem) (a : Nat) (f : Nat → Int64) : Mem := (m_n m, m_z m, m_sh m, m_R m, m_I m, va_up (m_J m) a f)
def m_nw (m : Mem) (kind len : Nat) : Mem := (m_n m + 1, m_z m + len, va_up (m_sh m) (m_n m) (kind, len), va_up (m_R m) (m_n m) (fun _ => none), va_up (m_I m) (m_n m) (fun _ => 0), va_up (m_J m) (m_n m) (fun _ => 0))
/-- an index lies in a row -/
def inb (i : Int32) (n : Nat) : Bool := !(decide (i < 0)) && decide (i.toNatClampNeg < n)
def bI (b : Bool) : Int32 := if b then 1 else 0
def lget : List Value → Nat → Value
  | [], _ => .retAddr 0
  | v :: _, 0 => v
  | _ :: vs, n + 1 => lget vs n
def kil (v : Value) : Value := match v with
  | .long _ => .retAddr 0
  | .double _ => .retAddr 0
  | w => w
def lkil : List Value → Nat → List Value
  | L, 0 => L
  | [], _ + 1 => []
  | v :: vs, 1 => kil v :: vs
  | v :: vs, n + 2 => v :: lkil vs (n + 1)
def lst1 (L : List Value) (i : Nat) (v : Value) : List Value := (lkil L i).set i v
def lst2 (L : List Value) (i : Nat) (v : Value) : List Value := ((lkil L i).set i v).set (i + 1) (.retAddr 0)
def psh (v : Option Value) (st : List Value) : List Value := match v with
  | none => st
  | some w => w :: st
def s_ok (L st : List Value) (m : Mem) : Option ((List Value × List Value × Mem) ⊕ Out) := some (.inl (L, st, m))
def s_jp (b : Nat) (L st : List Value) (m : Mem) : Option ((List Value × List Value × Mem) ⊕ Out) := some (.inr (.inr (b, L, st, m)))
def s_rt (v : Option Value) (m : Mem) : Option ((List Value × List Value × Mem) ⊕ Out) := some (.inr (.inl (v, m)))
def swj (t : List (Nat × Nat)) (d : Nat) (x : Int32) (L st : List Value) (m : Mem) : Option ((List Value × List Value × Mem) ⊕ Out) := match t with
  | [] => s_jp d L st m
  | q :: t' => if x = nI q.1 then s_jp q.2 L st m else swj t' d x L st m
def icnd (c : Jvm.ClassFile.Cond) (x y : Int32) : Bool := match c with
  | .eq => decide (x = y)
  | .ne => decide (¬ x = y)
  | .lt => decide (x < y)
  | .ge => decide (y ≤ x)
  | .gt => decide (y < x)
  | .le => decide (x ≤ y)
def s_call (r : Ans) (L st : List Value) : Option ((List Value × List Value × Mem) ⊕ Out) := match r with
  | none => none
  | some (v, m) => s_ok L (psh v st) m
/-- words on a stack -/
def cS : List Value → Nat
  | [] => 0
  | .int _ :: st => 1 + cS st
  | .ref _ :: st => 1 + cS st
  | .float _ :: st => 1 + cS st
  | _ :: st => 2 + cS st
/-- one instruction; cal: the methods; X: the script; sw: the switches' tables -/
def stp (cal : Nat → List Value → Mem → Ans) (X : Nat × (Nat → Int32)) (sw : Nat → List (Nat × Nat)) (bk : Nat) (a : AI) (L st : List Value) (m : Mem) : Option ((List Value × List Value × Mem) ⊕ Out) :=
  match a.1 with
  | .iconst _ | .bipush _ | .sipush _ | .ldc _ | .ldc_w _ => match a.2.2.1 with
    | 0 => s_ok L (.int (nI a.2.1) :: st) m
    | 1 => s_ok L (.int (-(nI a.2.1)) :: st) m
    | _ => s_ok L (.float (UInt32.ofNat a.2.1) :: st) m
  | .lconst _ | .ldc2_w _ => match a.2.2.1 with
    | 0 => s_ok L (.long (lN a.2.1) :: st) m
    | _ => s_ok L (.long (-(lN a.2.1)) :: st) m
  | .iload _ | .iload_n _ => match lget L a.2.1 with
    | .int x => s_ok L (.int x :: st) m
    | _ => none
  | .lload _ | .lload_n _ => match lget L a.2.1 with
    | .long x => s_ok L (.long x :: st) m
    | _ => none
  | .aload _ | .aload_n _ => match lget L a.2.1 with
    | .ref x => s_ok L (.ref x :: st) m
    | .float x => s_ok L (.float x :: st) m
    | _ => none
  | .istore _ | .istore_n _ => match st with
    | .int x :: st => s_ok (lst1 L a.2.1 (.int x)) st m
    | _ => none
  | .lstore _ | .lstore_n _ => match st with
    | .long x :: st => s_ok (lst2 L a.2.1 (.long x)) st m
    | _ => none
  | .astore _ | .astore_n _ => match st with
    | .ref x :: st => s_ok (lst1 L a.2.1 (.ref x)) st m
    | _ => none
  | .iinc _ _ => match lget L a.2.1 with
    | .int x => match a.2.2.2 with
      | 0 => s_ok (lst1 L a.2.1 (.int (x + nI a.2.2.1))) st m
      | _ => s_ok (lst1 L a.2.1 (.int (x - nI a.2.2.1))) st m
    | _ => none
  | .iadd => match st with
    | .int y :: .int x :: st => s_ok L (.int (x + y) :: st) m
    | _ => none
  | .isub => match st with
    | .int y :: .int x :: st => s_ok L (.int (x - y) :: st) m
    | _ => none
  | .imul => match st with
    | .int y :: .int x :: st => s_ok L (.int (x * y) :: st) m
    | _ => none
  | .iand => match st with
    | .int y :: .int x :: st => s_ok L (.int (x &&& y) :: st) m
    | _ => none
  | .ior => match st with
    | .int y :: .int x :: st => s_ok L (.int (x ||| y) :: st) m
    | _ => none
  | .ixor => match st with
    | .int y :: .int x :: st => s_ok L (.int (x ^^^ y) :: st) m
    | _ => none
  | .idiv => match st with
    | .int y :: .int x :: st => if y = 0 then none else s_ok L (.int (x / y) :: st) m
    | _ => none
  | .irem => match st with
    | .int y :: .int x :: st => if y = 0 then none else s_ok L (.int (x - x / y * y) :: st) m
    | _ => none
  | .ineg => match st with
    | .int x :: st => s_ok L (.int (-x) :: st) m
    | _ => none
  | .ishl => match st with
    | .int y :: .int x :: st => s_ok L (.int (x <<< (y &&& 31)) :: st) m
    | _ => none
  | .ishr => match st with
    | .int y :: .int x :: st => s_ok L (.int (x >>> (y &&& 31)) :: st) m
    | _ => none
  | .iushr => match st with
    | .int y :: .int x :: st => s_ok L (.int (x.toUInt32 >>> (y.toUInt32 &&& Int32.toUInt32 31)).toInt32 :: st) m
    | _ => none
  | .ladd => match st with
    | .long y :: .long x :: st => s_ok L (.long (x + y) :: st) m
    | _ => none
  | .lsub => match st with
    | .long y :: .long x :: st => s_ok L (.long (x - y) :: st) m
    | _ => none
  | .lmul => match st with
    | .long y :: .long x :: st => s_ok L (.long (x * y) :: st) m
    | _ => none
  | .land => match st with
    | .long y :: .long x :: st => s_ok L (.long (x &&& y) :: st) m
    | _ => none
  | .lor => match st with
    | .long y :: .long x :: st => s_ok L (.long (x ||| y) :: st) m
    | _ => none
  | .lxor => match st with
    | .long y :: .long x :: st => s_ok L (.long (x ^^^ y) :: st) m
    | _ => none
  | .lneg => match st with
    | .long x :: st => s_ok L (.long (-x) :: st) m
    | _ => none
  | .lshl => match st with
    | .int y :: .long x :: st => s_ok L (.long (x <<< (y.toInt64 &&& 63)) :: st) m
    | _ => none
  | .lushr => match st with
    | .int y :: .long x :: st => s_ok L (.long (x.toUInt64 >>> (y.toInt64.toUInt64 &&& Int64.toUInt64 63)).toInt64 :: st) m
    | _ => none
  | .lcmp => match st with
    | .long y :: .long x :: st => s_ok L (.int (lg_cmp x y) :: st) m
    | _ => none
  | .i2l => match st with
    | .int x :: st => s_ok L (.long x.toInt64 :: st) m
    | _ => none
  | .l2i => match st with
    | .long x :: st => s_ok L (.int x.toInt32 :: st) m
    | _ => none
  | .i2c => match st with
    | .int x :: st => s_ok L (.int (x.toUInt32 % 65536).toInt32 :: st) m
    | _ => none
  | .dup => match st with
    | .int x :: st => s_ok L (.int x :: .int x :: st) m
    | .ref x :: st => s_ok L (.ref x :: .ref x :: st) m
    | _ => none
  | .pop => match st with
    | .int _ :: st => s_ok L st m
    | .ref _ :: st => s_ok L st m
    | _ => none
  | .dup2 => match st with
    | .int y :: .ref x :: st => s_ok L (.int y :: .ref x :: .int y :: .ref x :: st) m
    | _ => none
  | .goto _ => s_jp a.2.1 L st m
  | .if_icmp c _ => match st with
    | .int y :: .int x :: st => if icnd c x y = true then s_jp a.2.1 L st m else s_jp (bk + 1) L st m
    | _ => none
  | .ifCond c _ => match st with
    | .int x :: st => if icnd c x 0 = true then s_jp a.2.1 L st m else s_jp (bk + 1) L st m
    | _ => none
  | .tableswitch _ _ _ _ | .lookupswitch _ _ => match st with
    | .int x :: st => swj (sw a.2.2.1) a.2.1 x L st m
    | _ => none
  | .getfield _ => match st with
    | .ref o :: st => if (m_sh m o).1 = a.2.1 then (match a.2.2.2 with
        | 0 => s_ok L (.int (m_I m o a.2.2.1) :: st) m
        | 1 => s_ok L (.long (m_J m o a.2.2.1) :: st) m
        | _ => s_ok L (va_rf (m_R m o a.2.2.1) :: st) m) else none
    | _ => none
  | .putfield _ => match a.2.2.2 with
    | 0 => (match st with
      | .int x :: .ref o :: st => if (m_sh m o).1 = a.2.1 then s_ok L st (m_wI m o a.2.2.1 x) else none
      | _ => none)
    | 1 => (match st with
      | .long x :: .ref o :: st => if (m_sh m o).1 = a.2.1 then s_ok L st (m_wJ m o a.2.2.1 x) else none
      | _ => none)
    | 2 => (match st with
      | .ref x :: .ref o :: st => if (m_sh m o).1 = a.2.1 then s_ok L st (m_wR m o a.2.2.1 (some x)) else none
      | _ => none)
    | _ => (match st with
      | .int x :: .ref o :: st => if (m_sh m o).1 = a.2.1 ∧ x &&& 1 = x then s_ok L st (m_wI m o a.2.2.1 x) else none
      | _ => none)
  | .iaload => match st with
    | .int i :: .ref o :: st => if (m_sh m o).1 = 20 ∧ inb i (m_sh m o).2 = true then s_ok L (.int (m_I m o i.toNatClampNeg) :: st) m else none
    | .int i :: .float k :: st => if k = 1000 ∧ inb i X.1 = true then s_ok L (.int (X.2 i.toNatClampNeg) :: st) m else none
    | _ => none
  | .laload => match st with
    | .int i :: .ref o :: st => if (m_sh m o).1 = 21 ∧ inb i (m_sh m o).2 = true then s_ok L (.long (m_J m o i.toNatClampNeg) :: st) m else none
    | _ => none
  | .baload => match st with
    | .int i :: .ref o :: st => if (m_sh m o).1 = 22 ∧ inb i (m_sh m o).2 = true then s_ok L (.int (m_I m o i.toNatClampNeg) :: st) m else none
    | _ => none
  | .aaload => match st with
    | .int i :: .ref o :: st => if ((m_sh m o).1 = 23 ∨ (m_sh m o).1 = 24) ∧ inb i (m_sh m o).2 = true then s_ok L (va_rf (m_R m o i.toNatClampNeg) :: st) m else none
    | _ => none
  | .iastore => match st with
    | .int x :: .int i :: .ref o :: st => if (m_sh m o).1 = 20 ∧ inb i (m_sh m o).2 = true then s_ok L st (m_wI m o i.toNatClampNeg x) else none
    | _ => none
  | .lastore => match st with
    | .long x :: .int i :: .ref o :: st => if (m_sh m o).1 = 21 ∧ inb i (m_sh m o).2 = true then s_ok L st (m_wJ m o i.toNatClampNeg x) else none
    | _ => none
  | .bastore => match st with
    | .int x :: .int i :: .ref o :: st => if (m_sh m o).1 = 22 ∧ inb i (m_sh m o).2 = true ∧ x &&& 1 = x then s_ok L st (m_wI m o i.toNatClampNeg x) else none
    | _ => none
  | .aastore => match st with
    | .ref x :: .int i :: .ref o :: st => if (((m_sh m o).1 = 23 ∧ (m_sh m x).1 = 6) ∨ ((m_sh m o).1 = 24 ∧ (m_sh m x).1 = 9)) ∧ inb i (m_sh m o).2 = true then s_ok L st (m_wR m o i.toNatClampNeg (some x)) else none
    | _ => none
  | .arraylength => match st with
    | .ref o :: st => if 20 ≤ (m_sh m o).1 ∧ (m_sh m o).1 < 25 then s_ok L (.int (nI (m_sh m o).2) :: st) m else none
    | .float k :: st => if k = 1000 then s_ok L (.int (nI X.1) :: st) m else none
    | _ => none
  | .new _ => s_ok L (.ref (m_n m) :: st) (m_nw m a.2.1 a.2.2.1)
  | .newarray _ => match st with
    | .int x :: st => if ¬ x < 0 ∧ x.toNatClampNeg ≤ 65536 then s_ok L (.ref (m_n m) :: st) (m_nw m a.2.1 x.toNatClampNeg) else none
    | _ => none
  | .anewarray _ => match st with
    | .int x :: st => if ¬ x < 0 ∧ x.toNatClampNeg ≤ 65536 then s_ok L (.ref (m_n m) :: st) (m_nw m a.2.1 x.toNatClampNeg) else none
    | _ => none
  | .invokevirtual _ => match st.drop (a.2.2.1 - 1) with
    | .ref o :: st' => if (m_sh m o).1 = a.2.2.2 ∧ (st'.length ≤ 4 ∨ (a.2.1 < 1000 ∧ cS st' ≤ 8)) then s_call (cal a.2.1 (st.take a.2.2.1).reverse m) L st' else none
    | .float _ :: st' => if 1000 ≤ a.2.1 ∧ st'.length ≤ 4 then s_call (cal a.2.1 (st.take a.2.2.1).reverse m) L st' else none
    | _ => none
  | .invokespecial _ => match a.2.2.2 with
    | 0 => (match st.drop (a.2.2.1 - 1) with
      | .ref _ :: st' => if st'.length ≤ 4 then s_call (cal a.2.1 (st.take a.2.2.1).reverse m) L st' else none
      | _ => none)
    | 3 => (match st with
      | .ref _ :: st => if st.length ≤ 4 then s_ok L st m else none
      | _ => none)
    | _ => none
  | .invokestatic _ => match a.2.2.2 with
    | 0 => if a.2.2.1 ≤ st.length ∧ (st.drop a.2.2.1).length ≤ 4 then s_call (cal a.2.1 (st.take a.2.2.1).reverse m) L (st.drop a.2.2.1) else none
    | 1 => (match st with
      | .int n :: .int dp :: .ref b :: .int sp :: .ref c :: st => if st.length ≤ 4 ∧ (m_sh m c).1 = 20 ∧ (m_sh m b).1 = 20 ∧ ¬ n < 0 ∧ ¬ dp < 0 ∧ ¬ sp < 0 ∧ sp.toNatClampNeg + n.toNatClampNeg ≤ (m_sh m c).2 ∧ dp.toNatClampNeg + n.toNatClampNeg ≤ (m_sh m b).2 then s_ok L st (m_rI m b (va_cpy (m_I m c) (m_I m b) sp.toNatClampNeg dp.toNatClampNeg n.toNatClampNeg)) else none
      | _ => none)
    | 2 => (match st with
      | .int n :: .int dp :: .ref b :: .int sp :: .ref c :: st => if st.length ≤ 4 ∧ (m_sh m c).1 = 21 ∧ (m_sh m b).1 = 21 ∧ ¬ n < 0 ∧ ¬ dp < 0 ∧ ¬ sp < 0 ∧ sp.toNatClampNeg + n.toNatClampNeg ≤ (m_sh m c).2 ∧ dp.toNatClampNeg + n.toNatClampNeg ≤ (m_sh m b).2 then s_ok L st (m_rJ m b (va_cpy (m_J m c) (m_J m b) sp.toNatClampNeg dp.toNatClampNeg n.toNatClampNeg)) else none
      | _ => none)
    | 3 => none
    | 4 => (match st with
      | .int y :: .int x :: st => if st.length ≤ 4 then s_ok L (.int (if x < y then y else x) :: st) m else none
      | _ => none)
    | _ => (match st with
      | .int y :: .int x :: st => if st.length ≤ 4 then s_ok L (.int (if y < x then y else x) :: st) m else none
      | _ => none)
  | .ireturn => match st with
    | [.int x] => (match a.2.1 with
      | 0 => s_rt (some (.int x)) m
      | _ => if x &&& 1 = x then s_rt (some (.int x)) m else none)
    | _ => none
  | .lreturn => match st with
    | [.long x] => s_rt (some (.long x)) m
    | _ => none
  | .return_ => match st with
    | [] => s_rt none m
    | _ => none
  | _ => none
