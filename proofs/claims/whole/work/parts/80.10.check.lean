/-! ===== the abstract code agrees with the class files' bytes: a check that a program runs ===== -/
def cOK (n : Int32) (r1 r2 : Nat) : Bool := match r2 with
  | 0 => decide (n = nI r1)
  | 1 => decide (n = -(nI r1))
  | _ => false
def mC (mi : Nat) : Nat := (mt mi).2.2.2
def tsOK (mi pc : Nat) : Int → List Int → List (Nat × Nat) → Bool
  | _, [], [] => true
  | lo, o :: os, q :: qs => decide (lo = (q.1 : Int)) && decide ((pc : Int) + o = (pcO mi q.2 : Int)) && tsOK mi pc (lo + 1) os qs
  | _, _, _ => false
def lsOK (mi pc : Nat) : List (Int × Int) → List (Nat × Nat) → Bool
  | [], [] => true
  | o :: os, q :: qs => decide (o.1 = (q.1 : Int)) && decide (q.1 < 2147483648) && decide ((pc : Int) + o.2 = (pcO mi q.2 : Int)) && lsOK mi pc os qs
  | _, _ => false
def inF (c idx ci k : Nat) : Bool := (flt c).any (fun q => decide (q.1 = idx) && decide (q.2.1 = ci) && decide (q.2.2.1 = k))
def brOK (mi bk pc : Nat) (off : Int) (r1 len : Nat) : Bool := decide (len = 3) && decide ((pc : Int) + off = (pcO mi r1 : Int)) && decide (pcO mi (bk + 1) = pc + 3)
/-- what must be true of an instruction's operands and of its words; instructions that the machine doesn't know are never reached -/
def okI (mi bk pc : Nat) (a : AI) (len : Nat) : Bool := match a.1 with
  | .iconst n => decide (len = 1) && cOK (Int32.ofInt n) a.2.1 a.2.2.1
  | .bipush n => decide (len = 2) && cOK (Int8.ofInt n).toInt32 a.2.1 a.2.2.1
  | .sipush n => decide (len = 3) && cOK (Int16.ofInt n).toInt32 a.2.1 a.2.2.1
  | .ldc i => decide (len = 2) && (match a.2.2.1 with
    | 2 => decide (a.2.1 < 22) && (match sttL[a.2.1]? with
      | some q => decide (q.1 = mC mi) && decide (q.2.1 = i)
      | none => false)
    | _ => decide ((i, a.2.1, a.2.2.1) ∈ ldi4 (mC mi)) && decide (a.2.2.1 < 2))
  | .ldc_w i => decide (len = 3) && decide ((i, a.2.1, a.2.2.1) ∈ ldi4 (mC mi)) && decide (a.2.2.1 < 2)
  | .lconst n => decide (len = 1) && decide (a.2.2.1 = 0) && decide (Int64.ofNat n.val = lN a.2.1)
  | .ldc2_w i => decide (len = 3) && decide ((i, a.2.1, a.2.2.1) ∈ ldi8 (mC mi))
  | .iload i | .lload i | .aload i => decide (len = 2) && decide (i = a.2.1)
  | .iload_n i | .lload_n i | .aload_n i => decide (len = 1) && decide (i.val = a.2.1)
  | .istore i | .astore i => decide (len = 2) && decide (i = a.2.1) && decide (i < ML mi)
  | .istore_n i | .astore_n i => decide (len = 1) && decide (i.val = a.2.1) && decide (i.val < ML mi)
  | .lstore i => decide (len = 2) && decide (i = a.2.1) && decide (i + 1 < ML mi)
  | .lstore_n i => decide (len = 1) && decide (i.val = a.2.1) && decide (i.val + 1 < ML mi)
  | .iinc i n => decide (len = 3) && decide (i = a.2.1) && decide (i < ML mi) && (match a.2.2.2 with
    | 0 => decide (Int32.ofInt n = nI a.2.2.1)
    | _ => decide (Int32.ofInt n = -(nI a.2.2.1)))
  | .iadd | .isub | .imul | .iand | .ior | .ixor | .idiv | .irem | .ineg | .ishl | .ishr | .iushr | .ladd | .lsub | .lmul | .land | .lor | .lxor | .lneg | .lshl | .lushr | .lcmp | .i2l | .l2i | .i2c | .dup | .pop | .dup2
  | .iaload | .laload | .baload | .aaload | .iastore | .lastore | .bastore | .aastore | .arraylength => decide (len = 1)
  | .goto off => decide (len = 3) && decide ((pc : Int) + off = (pcO mi a.2.1 : Int))
  | .if_icmp _ off => brOK mi bk pc off a.2.1 len
  | .ifCond _ off => brOK mi bk pc off a.2.1 len
  | .tableswitch d lo hi offs => decide ((pc : Int) + d = (pcO mi a.2.1 : Int)) && tsOK mi pc lo offs.toList (swt a.2.2.1) && decide (hi = lo + (offs.size : Int) - 1) && decide (0 ≤ lo) && decide (hi < 2147483648) && decide (0 < offs.size)
  | .lookupswitch d ps => decide ((pc : Int) + d = (pcO mi a.2.1 : Int)) && lsOK mi pc ps.toList (swt a.2.2.1) && (ps.toList.zip (ps.toList.drop 1)).all (fun (a, next) => a.1 < next.1)
  | .getfield i => decide (len = 3) && decide (a.2.1 < 13) && decide (a.2.2.1 < (clO a.2.1).2.2) && inF (mC mi) i a.2.1 a.2.2.1 && (match a.2.2.2 with
    | 0 => decide (ftO a.2.1 a.2.2.1 = 0) || decide (ftO a.2.1 a.2.2.1 = 3)
    | 1 => decide (ftO a.2.1 a.2.2.1 = 1)
    | _ => decide (ftO a.2.1 a.2.2.1 = 2))
  | .putfield i => decide (len = 3) && decide (a.2.1 < 13) && decide (a.2.2.1 < (clO a.2.1).2.2) && inF (mC mi) i a.2.1 a.2.2.1 && decide (a.2.2.2 < 4) && decide (ftO a.2.1 a.2.2.1 = a.2.2.2) && (decide (((clO a.2.1).2.1 a.2.2.1).2.2.2 = false) || (decide (mi ∈ ctrL) && decide (((clO a.2.1).2.1 a.2.2.1).1 = clsN (mC mi)) && (flt (mC mi)).any (fun q => decide (q = (i, a.2.1, a.2.2.1, 0)))))
  | .new i => decide (len = 3) && decide (a.2.1 < 13) && decide (a.2.2.1 = (clO a.2.1).2.2) && decide ((i, a.2.1) ∈ nwt (mC mi))
  | .newarray t => decide (len = 2) && (match t with
    | .int => decide (a.2.1 = 20)
    | .long => decide (a.2.1 = 21)
    | .boolean => decide (a.2.1 = 22)
    | _ => false)
  | .anewarray i => decide (len = 3) && (decide (a.2.1 = 23) || decide (a.2.1 = 24)) && decide ((i, a.2.1) ∈ nat (mC mi))
  | .invokevirtual i => decide (len = 3) && decide (0 < a.2.2.1) && (if a.2.1 < 1000 then decide (a.2.2.2 < 13) && decide (mC a.2.1 = a.2.2.2 + 1) && decide (a.2.1 < 269) && decide (a.2.1 ∈ slwL) && decide (a.2.1 ∈ iswL) && (decide ((i, a.2.1, 0) ∈ clt (mC mi)) || decide ((i, a.2.1, 1) ∈ clt (mC mi))) && decide ((parseMethodDescriptor (mt a.2.1).1.desc).map (fun d => d.parameters.length) = some (a.2.2.1 - 1)) else decide (a.2.2.2 = 99) && decide ((i, a.2.1) ∈ cst (mC mi)) && decide (a.2.2.1 = if a.2.1 = 1000 then 1 else 2))
  | .invokestatic i => decide (len = 3) && (match a.2.2.2 with
    | 0 => decide (a.2.1 < 269) && decide (a.2.1 ∈ stwL) && (decide ((i, a.2.1, 2) ∈ clt (mC mi)) || decide ((i, a.2.1, 3) ∈ clt (mC mi))) && decide ((parseMethodDescriptor (mt a.2.1).1.desc).map (fun d => d.parameters.length) = some a.2.2.1)
    | 1 => decide (i ∈ act (mC mi))
    | 2 => decide (i ∈ act (mC mi))
    | 3 => false
    | 4 => decide ((i, 4) ∈ mmt (mC mi))
    | 5 => decide ((i, 5) ∈ mmt (mC mi))
    | _ => false)
  | .invokespecial i => decide (len = 3) && (match a.2.2.2 with
    | 0 => decide (a.2.1 < 269) && decide (a.2.1 ∈ ctrL) && decide (a.2.1 ∈ iswL) && (decide ((i, a.2.1, 4) ∈ clt (mC mi)) || decide ((i, a.2.1, 5) ∈ clt (mC mi))) && decide (0 < a.2.2.1) && decide ((parseMethodDescriptor (mt a.2.1).1.desc).map (fun d => d.parameters.length) = some (a.2.2.1 - 1))
    | 3 => decide (i ∈ oit (mC mi))
    | _ => false)
  | .ireturn => decide (len = 1) && (match a.2.1 with
    | 0 => decide ((mt mi).2.2.1 = some .int)
    | _ => decide ((mt mi).2.2.1 = some .boolean))
  | .lreturn => decide (len = 1) && decide ((mt mi).2.2.1 = some .long)
  | .return_ => decide (len = 1) && decide ((mt mi).2.2.1 = none)
  | _ => true
def okL (mi bk : Nat) : Nat → List AI → Bool
  | pc, [] => decide (pcO mi (bk + 1) = pc)
  | pc, a :: is => match a.1 with
    | .athrow => true
    | _ => match decode (mt mi).2.1 pc with
      | .ok (i, len) => decide (i = a.1) && okI mi bk pc a len && (match a.1 with
        | .goto _ | .ireturn | .lreturn | .return_ | .if_icmp _ _ | .ifCond _ _ | .tableswitch _ _ _ _ | .lookupswitch _ _ => true
        | _ => okL mi bk (pc + len) is)
      | .error _ => false
def okM (mi : Nat) : Bool := decide (mC mi < 19) && (List.range (prg mi).length).all (fun b => okL mi b (pcO mi b) (cod mi b))
