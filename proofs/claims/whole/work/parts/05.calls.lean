/-! ===== calls, the relation Ev, and the equations of one instruction ===== -/
def fnd (c : Int32) : List Nat → Nat → Int32
  | [], _ => -1
  | x :: t, k => if c = nI x then nI k else fnd c t (k + 1)
def prim (mi : Nat) (args : List Value) (m : Mem) : Ans := match mi with
  | 1000 => (match args with
    | [.float k] => some (some (.int (nI (strT k.toNat).length)), m)
    | _ => none)
  | 1001 => (match args with
    | [.float k, .int i] => if inb i (strT k.toNat).length = true then some (some (.int (nI ((strT k.toNat).getD i.toNatClampNeg 0))), m) else none
    | _ => none)
  | 1002 => (match args with
    | [.float k, .int c] => some (some (.int (fnd c (strT k.toNat) 0)), m)
    | _ => none)
  | _ => none
noncomputable def callF (X : Nat × (Nat → Int32)) : Nat → Nat → List Value → Mem → Ans
  | 0, _, _, _ => none
  | d + 1, mi, args, m => if mi < 1000 then lim (fun n => runF (callF X d) X mi n 0 (entL mi args) [] m) else if 8 ≤ d then prim mi args m else none
def Ev (X : Nat × (Nat → Int32)) (d mi b : Nat) (L st : List Value) (m : Mem) (r : Option Value × Mem) : Prop := ∃ n, runF (callF X d) X mi n b L st m = some r
def EvK (X : Nat × (Nat → Int32)) (d mi : Nat) (r : Option Value × Mem) (o : Option Out) : Prop := match o with
  | none => False
  | some (.inl q) => q = r
  | some (.inr (b, L, st, m)) => Ev X d mi b L st m r
section EVS
variable {X : Nat × (Nat → Int32)} {d mi b : Nat} {L st : List Value} {m : Mem} {r : Option Value × Mem}
theorem Ev_iff : Ev X d mi b L st m r = EvK X d mi r (exF (callF X d) X b (cod mi b) L st m) := by
  apply propext
  constructor
  · rintro ⟨n, h⟩
    cases n with
    | zero => cases h
    | succ n =>
      rw [runF] at h
      unfold EvK
      cases he : exF (callF X d) X b (cod mi b) L st m with
      | none => rw [he] at h; cases h
      | some o =>
        rw [he] at h
        cases o with
        | inl q => exact Option.some.inj h
        | inr q => obtain ⟨b', L', st', m'⟩ := q; exact ⟨n, h⟩
  · intro h
    unfold EvK at h
    cases he : exF (callF X d) X b (cod mi b) L st m with
    | none => rw [he] at h; exact h.elim
    | some o =>
      rw [he] at h
      cases o with
      | inl q => exact ⟨1, by rw [runF, he]; exact congrArg some h⟩
      | inr q => obtain ⟨b', L', st', m'⟩ := q; obtain ⟨n, hn⟩ := h; exact ⟨n + 1, by rw [runF, he]; exact hn⟩
theorem Ev_U {is : List AI} (h : cod mi b = is) : Ev X d mi b L st m r = EvK X d mi r (exF (callF X d) X b is L st m) := by rw [Ev_iff, h]
theorem callF_of {args : List Value} (h : mi < 1000) (e : Ev X d mi 0 (entL mi args) [] m r) : callF X (d + 1) mi args m = some r := by
  obtain ⟨n, hn⟩ := e
  show (if mi < 1000 then lim (fun n => runF (callF X d) X mi n 0 (entL mi args) [] m) else if 8 ≤ d then prim mi args m else none) = some r
  rw [if_pos h]
  exact lim_of (fun n k r h1 h2 => runF_le h1 h2) hn
theorem EvK_r {q : Option Value × Mem} : EvK X d mi r (some (.inl q)) = (q = r) := rfl
theorem EvK_j : EvK X d mi r (some (.inr (b, L, st, m))) = Ev X d mi b L st m r := rfl
theorem EvK_if {c : Prop} [Decidable c] {x y : Option Out} : EvK X d mi r (if c then x else y) = if c then EvK X d mi r x else EvK X d mi r y := by split <;> rfl
end EVS
def aft (r : Ans) (f : Option Value → Mem → Option Out) : Option Out := match r with
  | none => none
  | some (v, m) => f v m
theorem aft_s {v : Option Value} {m : Mem} {f : Option Value → Mem → Option Out} : aft (some (v, m)) f = f v m := rfl
theorem psh_n {st : List Value} : psh none st = st := rfl
theorem psh_s {v : Value} {st : List Value} : psh (some v) st = v :: st := rfl
section XS
variable {cal : Nat → List Value → Mem → Ans} {X : Nat × (Nat → Int32)} {bk r1 r2 r3 : Nat} {is : List AI} {L st : List Value} {m : Mem} {a1 a2 a3 a4 a5 a6 a7 : Value}
theorem x_iconst0 {n : Int} : exF cal X bk ((.iconst n, r1, 0, r3) :: is) L (st) m = exF cal X bk is L (.int (nI r1) :: st) (m) := rfl
theorem x_iconst1 {n : Int} : exF cal X bk ((.iconst n, 1, 1, r3) :: is) L (st) m = exF cal X bk is L (.int (-1) :: st) (m) := rfl
theorem x_iconst2 {n : Int} : exF cal X bk ((.iconst n, 2, 1, r3) :: is) L (st) m = exF cal X bk is L (.int (-2) :: st) (m) := rfl
theorem x_bipush0 {n : Int} : exF cal X bk ((.bipush n, r1, 0, r3) :: is) L (st) m = exF cal X bk is L (.int (nI r1) :: st) (m) := rfl
theorem x_bipush1 {n : Int} : exF cal X bk ((.bipush n, 1, 1, r3) :: is) L (st) m = exF cal X bk is L (.int (-1) :: st) (m) := rfl
theorem x_bipush2 {n : Int} : exF cal X bk ((.bipush n, 2, 1, r3) :: is) L (st) m = exF cal X bk is L (.int (-2) :: st) (m) := rfl
theorem x_sipush0 {n : Int} : exF cal X bk ((.sipush n, r1, 0, r3) :: is) L (st) m = exF cal X bk is L (.int (nI r1) :: st) (m) := rfl
theorem x_sipush1 {n : Int} : exF cal X bk ((.sipush n, 1, 1, r3) :: is) L (st) m = exF cal X bk is L (.int (-1) :: st) (m) := rfl
theorem x_sipush2 {n : Int} : exF cal X bk ((.sipush n, 2, 1, r3) :: is) L (st) m = exF cal X bk is L (.int (-2) :: st) (m) := rfl
theorem x_ldc0 {n : Nat} : exF cal X bk ((.ldc n, r1, 0, r3) :: is) L (st) m = exF cal X bk is L (.int (nI r1) :: st) (m) := rfl
theorem x_ldc1 {n : Nat} : exF cal X bk ((.ldc n, 1, 1, r3) :: is) L (st) m = exF cal X bk is L (.int (-1) :: st) (m) := rfl
theorem x_ldc2 {n : Nat} : exF cal X bk ((.ldc n, 2, 1, r3) :: is) L (st) m = exF cal X bk is L (.int (-2) :: st) (m) := rfl
theorem x_ldc_w0 {n : Nat} : exF cal X bk ((.ldc_w n, r1, 0, r3) :: is) L (st) m = exF cal X bk is L (.int (nI r1) :: st) (m) := rfl
theorem x_ldc_w1 {n : Nat} : exF cal X bk ((.ldc_w n, 1, 1, r3) :: is) L (st) m = exF cal X bk is L (.int (-1) :: st) (m) := rfl
theorem x_ldc_w2 {n : Nat} : exF cal X bk ((.ldc_w n, 2, 1, r3) :: is) L (st) m = exF cal X bk is L (.int (-2) :: st) (m) := rfl
theorem x_ldcs {n : Nat} : exF cal X bk ((.ldc n, r1, 2, r3) :: is) L (st) m = exF cal X bk is L (.float (UInt32.ofNat r1) :: st) (m) := rfl
theorem x_lconst {n : Fin 2} : exF cal X bk ((.lconst n, r1, 0, r3) :: is) L (st) m = exF cal X bk is L (.long (lN r1) :: st) (m) := rfl
theorem x_ldcl {n : Nat} : exF cal X bk ((.ldc2_w n, r1, 0, r3) :: is) L (st) m = exF cal X bk is L (.long (lN r1) :: st) (m) := rfl
theorem x_ldcln {n : Nat} : exF cal X bk ((.ldc2_w n, r1, 1, r3) :: is) L (st) m = exF cal X bk is L (.long (-(lN r1)) :: st) (m) := rfl
def ld (v : Value) (f : Value → Option Out) : Option Out := match v with
  | .int x => f (.int x)
  | .long x => f (.long x)
  | .ref x => f (.ref x)
  | .float x => f (.float x)
  | _ => none
def ldi (v : Value) (f : Value → Option Out) : Option Out := match v with
  | .int x => f (.int x)
  | _ => none
def ldl (v : Value) (f : Value → Option Out) : Option Out := match v with
  | .long x => f (.long x)
  | _ => none
def lda (v : Value) (f : Value → Option Out) : Option Out := match v with
  | .ref x => f (.ref x)
  | .float x => f (.float x)
  | _ => none
theorem ldi_i {x : Int32} {f : Value → Option Out} : ldi (.int x) f = f (.int x) := rfl
theorem ldl_l {x : Int64} {f : Value → Option Out} : ldl (.long x) f = f (.long x) := rfl
theorem lda_r {x : Nat} {f : Value → Option Out} : lda (.ref x) f = f (.ref x) := rfl
theorem lda_f {x : UInt32} {f : Value → Option Out} : lda (.float x) f = f (.float x) := rfl
theorem x_iload {n : Nat} : exF cal X bk ((.iload n, r1, r2, r3) :: is) L (st) m = ldi (lget L r1) (fun v => exF cal X bk is L (v :: st) (m)) := by simp only [exF, stp, ldi]; cases lget L r1 <;> rfl
theorem x_iload_n {n : Fin 4} : exF cal X bk ((.iload_n n, r1, r2, r3) :: is) L (st) m = ldi (lget L r1) (fun v => exF cal X bk is L (v :: st) (m)) := by simp only [exF, stp, ldi]; cases lget L r1 <;> rfl
theorem x_lload {n : Nat} : exF cal X bk ((.lload n, r1, r2, r3) :: is) L (st) m = ldl (lget L r1) (fun v => exF cal X bk is L (v :: st) (m)) := by simp only [exF, stp, ldl]; cases lget L r1 <;> rfl
theorem x_lload_n {n : Fin 4} : exF cal X bk ((.lload_n n, r1, r2, r3) :: is) L (st) m = ldl (lget L r1) (fun v => exF cal X bk is L (v :: st) (m)) := by simp only [exF, stp, ldl]; cases lget L r1 <;> rfl
theorem x_aload {n : Nat} : exF cal X bk ((.aload n, r1, r2, r3) :: is) L (st) m = lda (lget L r1) (fun v => exF cal X bk is L (v :: st) (m)) := by simp only [exF, stp, lda]; cases lget L r1 <;> rfl
theorem x_aload_n {n : Fin 4} : exF cal X bk ((.aload_n n, r1, r2, r3) :: is) L (st) m = lda (lget L r1) (fun v => exF cal X bk is L (v :: st) (m)) := by simp only [exF, stp, lda]; cases lget L r1 <;> rfl
theorem x_istore {n : Nat} {x : Int32} : exF cal X bk ((.istore n, r1, r2, r3) :: is) L (.int x :: st) m = exF cal X bk is (lst1 L r1 (.int x)) (st) (m) := rfl
theorem x_istore_n {n : Fin 4} {x : Int32} : exF cal X bk ((.istore_n n, r1, r2, r3) :: is) L (.int x :: st) m = exF cal X bk is (lst1 L r1 (.int x)) (st) (m) := rfl
theorem x_lstore {n : Nat} {x : Int64} : exF cal X bk ((.lstore n, r1, r2, r3) :: is) L (.long x :: st) m = exF cal X bk is (lst2 L r1 (.long x)) (st) (m) := rfl
theorem x_lstore_n {n : Fin 4} {x : Int64} : exF cal X bk ((.lstore_n n, r1, r2, r3) :: is) L (.long x :: st) m = exF cal X bk is (lst2 L r1 (.long x)) (st) (m) := rfl
theorem x_astore {n : Nat} {x : Nat} : exF cal X bk ((.astore n, r1, r2, r3) :: is) L (.ref x :: st) m = exF cal X bk is (lst1 L r1 (.ref x)) (st) (m) := rfl
theorem x_astore_n {n : Fin 4} {x : Nat} : exF cal X bk ((.astore_n n, r1, r2, r3) :: is) L (.ref x :: st) m = exF cal X bk is (lst1 L r1 (.ref x)) (st) (m) := rfl
theorem x_iinc0 {n : Nat} {k : Int} : exF cal X bk ((.iinc n k, r1, r2, 0) :: is) L (st) m = ldi (lget L r1) (fun v => exF cal X bk is (lst1 L r1 (match v with | .int x => .int (x + nI r2) | _ => v)) st m) := by simp only [exF, stp, ldi]; cases lget L r1 <;> rfl
theorem x_iinc1 {n : Nat} {k : Int} : exF cal X bk ((.iinc n k, r1, r2, 1) :: is) L (st) m = ldi (lget L r1) (fun v => exF cal X bk is (lst1 L r1 (match v with | .int x => .int (x - nI r2) | _ => v)) st m) := by simp only [exF, stp, ldi]; cases lget L r1 <;> rfl
theorem x_iadd {x y : Int32} : exF cal X bk ((.iadd, r1, r2, r3) :: is) L (.int y :: .int x :: st) m = exF cal X bk is L (.int (x + y) :: st) (m) := rfl
theorem x_isub {x y : Int32} : exF cal X bk ((.isub, r1, r2, r3) :: is) L (.int y :: .int x :: st) m = exF cal X bk is L (.int (x - y) :: st) (m) := rfl
theorem x_imul {x y : Int32} : exF cal X bk ((.imul, r1, r2, r3) :: is) L (.int y :: .int x :: st) m = exF cal X bk is L (.int (x * y) :: st) (m) := rfl
theorem x_iand {x y : Int32} : exF cal X bk ((.iand, r1, r2, r3) :: is) L (.int y :: .int x :: st) m = exF cal X bk is L (.int (x &&& y) :: st) (m) := rfl
theorem x_ior {x y : Int32} : exF cal X bk ((.ior, r1, r2, r3) :: is) L (.int y :: .int x :: st) m = exF cal X bk is L (.int (x ||| y) :: st) (m) := rfl
theorem x_ixor {x y : Int32} : exF cal X bk ((.ixor, r1, r2, r3) :: is) L (.int y :: .int x :: st) m = exF cal X bk is L (.int (x ^^^ y) :: st) (m) := rfl
theorem x_ishl {x y : Int32} : exF cal X bk ((.ishl, r1, r2, r3) :: is) L (.int y :: .int x :: st) m = exF cal X bk is L (.int (x <<< (y &&& 31)) :: st) (m) := rfl
theorem x_ishr {x y : Int32} : exF cal X bk ((.ishr, r1, r2, r3) :: is) L (.int y :: .int x :: st) m = exF cal X bk is L (.int (x >>> (y &&& 31)) :: st) (m) := rfl
theorem x_iushr {x y : Int32} : exF cal X bk ((.iushr, r1, r2, r3) :: is) L (.int y :: .int x :: st) m = exF cal X bk is L (.int ((x.toUInt32 >>> (y.toUInt32 &&& Int32.toUInt32 31)).toInt32) :: st) (m) := rfl
theorem x_idiv {x y : Int32} : exF cal X bk ((.idiv, r1, r2, r3) :: is) L (.int y :: .int x :: st) m = if y = 0 then none else exF cal X bk is L (.int (x / y) :: st) (m) := by simp only [exF, stp, icnd, decide_eq_true_eq]; by_cases h : y = 0 <;> first | (simp only [if_pos h]; rfl) | (simp only [if_neg h]; rfl) | simp only [if_pos h] | simp only [if_neg h]
theorem x_irem {x y : Int32} : exF cal X bk ((.irem, r1, r2, r3) :: is) L (.int y :: .int x :: st) m = if y = 0 then none else exF cal X bk is L (.int (x - x / y * y) :: st) (m) := by simp only [exF, stp, icnd, decide_eq_true_eq]; by_cases h : y = 0 <;> first | (simp only [if_pos h]; rfl) | (simp only [if_neg h]; rfl) | simp only [if_pos h] | simp only [if_neg h]
theorem x_ineg {x : Int32} : exF cal X bk ((.ineg, r1, r2, r3) :: is) L (.int x :: st) m = exF cal X bk is L (.int (-x) :: st) (m) := rfl
theorem x_ladd {x y : Int64} : exF cal X bk ((.ladd, r1, r2, r3) :: is) L (.long y :: .long x :: st) m = exF cal X bk is L (.long (x + y) :: st) (m) := rfl
theorem x_lsub {x y : Int64} : exF cal X bk ((.lsub, r1, r2, r3) :: is) L (.long y :: .long x :: st) m = exF cal X bk is L (.long (x - y) :: st) (m) := rfl
theorem x_lmul {x y : Int64} : exF cal X bk ((.lmul, r1, r2, r3) :: is) L (.long y :: .long x :: st) m = exF cal X bk is L (.long (x * y) :: st) (m) := rfl
theorem x_land {x y : Int64} : exF cal X bk ((.land, r1, r2, r3) :: is) L (.long y :: .long x :: st) m = exF cal X bk is L (.long (x &&& y) :: st) (m) := rfl
theorem x_lor {x y : Int64} : exF cal X bk ((.lor, r1, r2, r3) :: is) L (.long y :: .long x :: st) m = exF cal X bk is L (.long (x ||| y) :: st) (m) := rfl
theorem x_lxor {x y : Int64} : exF cal X bk ((.lxor, r1, r2, r3) :: is) L (.long y :: .long x :: st) m = exF cal X bk is L (.long (x ^^^ y) :: st) (m) := rfl
theorem x_lneg {x : Int64} : exF cal X bk ((.lneg, r1, r2, r3) :: is) L (.long x :: st) m = exF cal X bk is L (.long (-x) :: st) (m) := rfl
theorem x_lshl {y : Int32} {x : Int64} : exF cal X bk ((.lshl, r1, r2, r3) :: is) L (.int y :: .long x :: st) m = exF cal X bk is L (.long (x <<< (y.toInt64 &&& 63)) :: st) (m) := rfl
theorem x_lushr {y : Int32} {x : Int64} : exF cal X bk ((.lushr, r1, r2, r3) :: is) L (.int y :: .long x :: st) m = exF cal X bk is L (.long ((x.toUInt64 >>> (y.toInt64.toUInt64 &&& Int64.toUInt64 63)).toInt64) :: st) (m) := rfl
theorem x_lcmp {x y : Int64} : exF cal X bk ((.lcmp, r1, r2, r3) :: is) L (.long y :: .long x :: st) m = exF cal X bk is L (.int (lg_cmp x y) :: st) (m) := rfl
theorem x_i2l {x : Int32} : exF cal X bk ((.i2l, r1, r2, r3) :: is) L (.int x :: st) m = exF cal X bk is L (.long x.toInt64 :: st) (m) := rfl
theorem x_l2i {x : Int64} : exF cal X bk ((.l2i, r1, r2, r3) :: is) L (.long x :: st) m = exF cal X bk is L (.int x.toInt32 :: st) (m) := rfl
theorem x_i2c {x : Int32} : exF cal X bk ((.i2c, r1, r2, r3) :: is) L (.int x :: st) m = exF cal X bk is L (.int (x.toUInt32 % 65536).toInt32 :: st) (m) := rfl
theorem x_dupi {x : Int32} : exF cal X bk ((.dup, r1, r2, r3) :: is) L (.int x :: st) m = exF cal X bk is L (.int x :: .int x :: st) (m) := rfl
theorem x_dupr {x : Nat} : exF cal X bk ((.dup, r1, r2, r3) :: is) L (.ref x :: st) m = exF cal X bk is L (.ref x :: .ref x :: st) (m) := rfl
theorem x_popi {x : Int32} : exF cal X bk ((.pop, r1, r2, r3) :: is) L (.int x :: st) m = exF cal X bk is L (st) (m) := rfl
theorem x_popr {x : Nat} : exF cal X bk ((.pop, r1, r2, r3) :: is) L (.ref x :: st) m = exF cal X bk is L (st) (m) := rfl
theorem x_dup2 {y : Int32} {x : Nat} : exF cal X bk ((.dup2, r1, r2, r3) :: is) L (.int y :: .ref x :: st) m = exF cal X bk is L (.int y :: .ref x :: .int y :: .ref x :: st) (m) := rfl
theorem x_goto {n : Int} : exF cal X bk ((.goto n, r1, r2, r3) :: is) L (st) m = some (.inr (r1, L, st, m)) := rfl
theorem x_icmp_eq {n : Int} {x y : Int32} : exF cal X bk ((.if_icmp .eq n, r1, r2, r3) :: is) L (.int y :: .int x :: st) m = if x = y then some (.inr (r1, L, st, m)) else some (.inr (bk + 1, L, st, m)) := by simp only [exF, stp, icnd, decide_eq_true_eq]; by_cases h : x = y <;> first | (simp only [if_pos h]; rfl) | (simp only [if_neg h]; rfl) | simp only [if_pos h] | simp only [if_neg h]
theorem x_if_eq {n : Int} {x : Int32} : exF cal X bk ((.ifCond .eq n, r1, r2, r3) :: is) L (.int x :: st) m = if x = 0 then some (.inr (r1, L, st, m)) else some (.inr (bk + 1, L, st, m)) := by simp only [exF, stp, icnd, decide_eq_true_eq]; by_cases h : x = 0 <;> first | (simp only [if_pos h]; rfl) | (simp only [if_neg h]; rfl) | simp only [if_pos h] | simp only [if_neg h]
theorem x_icmp_ne {n : Int} {x y : Int32} : exF cal X bk ((.if_icmp .ne n, r1, r2, r3) :: is) L (.int y :: .int x :: st) m = if ¬ x = y then some (.inr (r1, L, st, m)) else some (.inr (bk + 1, L, st, m)) := by simp only [exF, stp, icnd, decide_eq_true_eq]; by_cases h : ¬ x = y <;> first | (simp only [if_pos h]; rfl) | (simp only [if_neg h]; rfl) | simp only [if_pos h] | simp only [if_neg h]
theorem x_if_ne {n : Int} {x : Int32} : exF cal X bk ((.ifCond .ne n, r1, r2, r3) :: is) L (.int x :: st) m = if ¬ x = 0 then some (.inr (r1, L, st, m)) else some (.inr (bk + 1, L, st, m)) := by simp only [exF, stp, icnd, decide_eq_true_eq]; by_cases h : ¬ x = 0 <;> first | (simp only [if_pos h]; rfl) | (simp only [if_neg h]; rfl) | simp only [if_pos h] | simp only [if_neg h]
theorem x_icmp_lt {n : Int} {x y : Int32} : exF cal X bk ((.if_icmp .lt n, r1, r2, r3) :: is) L (.int y :: .int x :: st) m = if x < y then some (.inr (r1, L, st, m)) else some (.inr (bk + 1, L, st, m)) := by simp only [exF, stp, icnd, decide_eq_true_eq]; by_cases h : x < y <;> first | (simp only [if_pos h]; rfl) | (simp only [if_neg h]; rfl) | simp only [if_pos h] | simp only [if_neg h]
theorem x_if_lt {n : Int} {x : Int32} : exF cal X bk ((.ifCond .lt n, r1, r2, r3) :: is) L (.int x :: st) m = if x < 0 then some (.inr (r1, L, st, m)) else some (.inr (bk + 1, L, st, m)) := by simp only [exF, stp, icnd, decide_eq_true_eq]; by_cases h : x < 0 <;> first | (simp only [if_pos h]; rfl) | (simp only [if_neg h]; rfl) | simp only [if_pos h] | simp only [if_neg h]
theorem x_icmp_ge {n : Int} {x y : Int32} : exF cal X bk ((.if_icmp .ge n, r1, r2, r3) :: is) L (.int y :: .int x :: st) m = if y ≤ x then some (.inr (r1, L, st, m)) else some (.inr (bk + 1, L, st, m)) := by simp only [exF, stp, icnd, decide_eq_true_eq]; by_cases h : y ≤ x <;> first | (simp only [if_pos h]; rfl) | (simp only [if_neg h]; rfl) | simp only [if_pos h] | simp only [if_neg h]
theorem x_if_ge {n : Int} {x : Int32} : exF cal X bk ((.ifCond .ge n, r1, r2, r3) :: is) L (.int x :: st) m = if 0 ≤ x then some (.inr (r1, L, st, m)) else some (.inr (bk + 1, L, st, m)) := by simp only [exF, stp, icnd, decide_eq_true_eq]; by_cases h : 0 ≤ x <;> first | (simp only [if_pos h]; rfl) | (simp only [if_neg h]; rfl) | simp only [if_pos h] | simp only [if_neg h]
theorem x_icmp_gt {n : Int} {x y : Int32} : exF cal X bk ((.if_icmp .gt n, r1, r2, r3) :: is) L (.int y :: .int x :: st) m = if y < x then some (.inr (r1, L, st, m)) else some (.inr (bk + 1, L, st, m)) := by simp only [exF, stp, icnd, decide_eq_true_eq]; by_cases h : y < x <;> first | (simp only [if_pos h]; rfl) | (simp only [if_neg h]; rfl) | simp only [if_pos h] | simp only [if_neg h]
theorem x_if_gt {n : Int} {x : Int32} : exF cal X bk ((.ifCond .gt n, r1, r2, r3) :: is) L (.int x :: st) m = if 0 < x then some (.inr (r1, L, st, m)) else some (.inr (bk + 1, L, st, m)) := by simp only [exF, stp, icnd, decide_eq_true_eq]; by_cases h : 0 < x <;> first | (simp only [if_pos h]; rfl) | (simp only [if_neg h]; rfl) | simp only [if_pos h] | simp only [if_neg h]
theorem x_icmp_le {n : Int} {x y : Int32} : exF cal X bk ((.if_icmp .le n, r1, r2, r3) :: is) L (.int y :: .int x :: st) m = if x ≤ y then some (.inr (r1, L, st, m)) else some (.inr (bk + 1, L, st, m)) := by simp only [exF, stp, icnd, decide_eq_true_eq]; by_cases h : x ≤ y <;> first | (simp only [if_pos h]; rfl) | (simp only [if_neg h]; rfl) | simp only [if_pos h] | simp only [if_neg h]
theorem x_if_le {n : Int} {x : Int32} : exF cal X bk ((.ifCond .le n, r1, r2, r3) :: is) L (.int x :: st) m = if x ≤ 0 then some (.inr (r1, L, st, m)) else some (.inr (bk + 1, L, st, m)) := by simp only [exF, stp, icnd, decide_eq_true_eq]; by_cases h : x ≤ 0 <;> first | (simp only [if_pos h]; rfl) | (simp only [if_neg h]; rfl) | simp only [if_pos h] | simp only [if_neg h]
def swk (t : List (Nat × Nat)) (d : Nat) (x : Int32) (L st : List Value) (m : Mem) : Option Out := match t with
  | [] => some (.inr (d, L, st, m))
  | q :: t' => if x = nI q.1 then some (.inr (q.2, L, st, m)) else swk t' d x L st m
theorem swk_0 {d : Nat} {x : Int32} {L st : List Value} {m : Mem} : swk [] d x L st m = some (.inr (d, L, st, m)) := rfl
theorem swk_1 {q : Nat × Nat} {t : List (Nat × Nat)} {d : Nat} {x : Int32} {L st : List Value} {m : Mem} : swk (q :: t) d x L st m = if x = nI q.1 then some (.inr (q.2, L, st, m)) else swk t d x L st m := rfl
theorem swj_k (t : List (Nat × Nat)) (d : Nat) (x : Int32) (L st : List Value) (m : Mem) : swj t d x L st m = (swk t d x L st m).map Sum.inr := by
  induction t with
  | nil => rfl
  | cons q t ih => unfold swj swk; split; · rfl
                   · exact ih
theorem swk_r (t : List (Nat × Nat)) (d : Nat) (x : Int32) (L st : List Value) (m : Mem) : ∃ b, swk t d x L st m = some (.inr (b, L, st, m)) := by
  induction t with
  | nil => exact ⟨d, rfl⟩
  | cons q t ih => unfold swk; split; · exact ⟨_, rfl⟩
                   · exact ih
theorem x_tsw {n1 n2 n3 : Int} {n4 : Array Int} {x : Int32} : exF cal X bk ((.tableswitch n1 n2 n3 n4, r1, r2, r3) :: is) L (.int x :: st) m = swk (swt r2) r1 x L st m := by simp only [exF, stp]; rw [swj_k]; obtain ⟨b, hb⟩ := swk_r (swt r2) r1 x L st m; rw [hb]; rfl
theorem x_lsw {n1 : Int} {n2 : Array (Int × Int)} {x : Int32} : exF cal X bk ((.lookupswitch n1 n2, r1, r2, r3) :: is) L (.int x :: st) m = swk (swt r2) r1 x L st m := by simp only [exF, stp]; rw [swj_k]; obtain ⟨b, hb⟩ := swk_r (swt r2) r1 x L st m; rw [hb]; rfl
theorem x_get0 {n o : Nat} : exF cal X bk ((.getfield n, r1, r2, 0) :: is) L (.ref o :: st) m = if (m_sh m o).1 = r1 then exF cal X bk is L (.int (m_I m o r2) :: st) (m) else none := by simp only [exF, stp, icnd, decide_eq_true_eq]; by_cases h : (m_sh m o).1 = r1 <;> first | (simp only [if_pos h]; rfl) | (simp only [if_neg h]; rfl) | simp only [if_pos h] | simp only [if_neg h]
theorem x_get1 {n o : Nat} : exF cal X bk ((.getfield n, r1, r2, 1) :: is) L (.ref o :: st) m = if (m_sh m o).1 = r1 then exF cal X bk is L (.long (m_J m o r2) :: st) (m) else none := by simp only [exF, stp, icnd, decide_eq_true_eq]; by_cases h : (m_sh m o).1 = r1 <;> first | (simp only [if_pos h]; rfl) | (simp only [if_neg h]; rfl) | simp only [if_pos h] | simp only [if_neg h]
theorem x_get2 {n o : Nat} : exF cal X bk ((.getfield n, r1, r2, 2) :: is) L (.ref o :: st) m = if (m_sh m o).1 = r1 then exF cal X bk is L (va_rf (m_R m o r2) :: st) (m) else none := by simp only [exF, stp, icnd, decide_eq_true_eq]; by_cases h : (m_sh m o).1 = r1 <;> first | (simp only [if_pos h]; rfl) | (simp only [if_neg h]; rfl) | simp only [if_pos h] | simp only [if_neg h]
theorem x_put0 {n o : Nat} {x : Int32} : exF cal X bk ((.putfield n, r1, r2, 0) :: is) L (.int x :: .ref o :: st) m = if (m_sh m o).1 = r1 then exF cal X bk is L (st) (m_wI m o r2 x) else none := by simp only [exF, stp, icnd, decide_eq_true_eq]; by_cases h : (m_sh m o).1 = r1 <;> first | (simp only [if_pos h]; rfl) | (simp only [if_neg h]; rfl) | simp only [if_pos h] | simp only [if_neg h]
theorem x_put1 {n o : Nat} {x : Int64} : exF cal X bk ((.putfield n, r1, r2, 1) :: is) L (.long x :: .ref o :: st) m = if (m_sh m o).1 = r1 then exF cal X bk is L (st) (m_wJ m o r2 x) else none := by simp only [exF, stp, icnd, decide_eq_true_eq]; by_cases h : (m_sh m o).1 = r1 <;> first | (simp only [if_pos h]; rfl) | (simp only [if_neg h]; rfl) | simp only [if_pos h] | simp only [if_neg h]
theorem x_put2 {n o : Nat} {x : Nat} : exF cal X bk ((.putfield n, r1, r2, 2) :: is) L (.ref x :: .ref o :: st) m = if (m_sh m o).1 = r1 then exF cal X bk is L (st) (m_wR m o r2 (some x)) else none := by simp only [exF, stp, icnd, decide_eq_true_eq]; by_cases h : (m_sh m o).1 = r1 <;> first | (simp only [if_pos h]; rfl) | (simp only [if_neg h]; rfl) | simp only [if_pos h] | simp only [if_neg h]
theorem x_put3 {n o : Nat} {x : Int32} : exF cal X bk ((.putfield n, r1, r2, 3) :: is) L (.int x :: .ref o :: st) m = if (m_sh m o).1 = r1 ∧ x &&& 1 = x then exF cal X bk is L (st) (m_wI m o r2 x) else none := by simp only [exF, stp, icnd, decide_eq_true_eq]; by_cases h : (m_sh m o).1 = r1 ∧ x &&& 1 = x <;> first | (simp only [if_pos h]; rfl) | (simp only [if_neg h]; rfl) | simp only [if_pos h] | simp only [if_neg h]
theorem x_iaload {i : Int32} {o : Nat} : exF cal X bk ((.iaload, r1, r2, r3) :: is) L (.int i :: .ref o :: st) m = if (m_sh m o).1 = 20 ∧ inb i (m_sh m o).2 = true then exF cal X bk is L (.int (m_I m o i.toNatClampNeg) :: st) (m) else none := by simp only [exF, stp, icnd, decide_eq_true_eq]; by_cases h : (m_sh m o).1 = 20 ∧ inb i (m_sh m o).2 = true <;> first | (simp only [if_pos h]; rfl) | (simp only [if_neg h]; rfl) | simp only [if_pos h] | simp only [if_neg h]
theorem x_laload {i : Int32} {o : Nat} : exF cal X bk ((.laload, r1, r2, r3) :: is) L (.int i :: .ref o :: st) m = if (m_sh m o).1 = 21 ∧ inb i (m_sh m o).2 = true then exF cal X bk is L (.long (m_J m o i.toNatClampNeg) :: st) (m) else none := by simp only [exF, stp, icnd, decide_eq_true_eq]; by_cases h : (m_sh m o).1 = 21 ∧ inb i (m_sh m o).2 = true <;> first | (simp only [if_pos h]; rfl) | (simp only [if_neg h]; rfl) | simp only [if_pos h] | simp only [if_neg h]
theorem x_baload {i : Int32} {o : Nat} : exF cal X bk ((.baload, r1, r2, r3) :: is) L (.int i :: .ref o :: st) m = if (m_sh m o).1 = 22 ∧ inb i (m_sh m o).2 = true then exF cal X bk is L (.int (m_I m o i.toNatClampNeg) :: st) (m) else none := by simp only [exF, stp, icnd, decide_eq_true_eq]; by_cases h : (m_sh m o).1 = 22 ∧ inb i (m_sh m o).2 = true <;> first | (simp only [if_pos h]; rfl) | (simp only [if_neg h]; rfl) | simp only [if_pos h] | simp only [if_neg h]
theorem x_aaload {i : Int32} {o : Nat} : exF cal X bk ((.aaload, r1, r2, r3) :: is) L (.int i :: .ref o :: st) m = if ((m_sh m o).1 = 23 ∨ (m_sh m o).1 = 24) ∧ inb i (m_sh m o).2 = true then exF cal X bk is L (va_rf (m_R m o i.toNatClampNeg) :: st) (m) else none := by simp only [exF, stp, icnd, decide_eq_true_eq]; by_cases h : ((m_sh m o).1 = 23 ∨ (m_sh m o).1 = 24) ∧ inb i (m_sh m o).2 = true <;> first | (simp only [if_pos h]; rfl) | (simp only [if_neg h]; rfl) | simp only [if_pos h] | simp only [if_neg h]
theorem x_sald {i : Int32} {o : UInt32} : exF cal X bk ((.iaload, r1, r2, r3) :: is) L (.int i :: .float o :: st) m = if o = 1000 ∧ inb i X.1 = true then exF cal X bk is L (.int (X.2 i.toNatClampNeg) :: st) (m) else none := by simp only [exF, stp, icnd, decide_eq_true_eq]; by_cases h : o = 1000 ∧ inb i X.1 = true <;> first | (simp only [if_pos h]; rfl) | (simp only [if_neg h]; rfl) | simp only [if_pos h] | simp only [if_neg h]
theorem x_iastore {i : Int32} {o : Nat} {x : Int32} : exF cal X bk ((.iastore, r1, r2, r3) :: is) L (.int x :: .int i :: .ref o :: st) m = if (m_sh m o).1 = 20 ∧ inb i (m_sh m o).2 = true then exF cal X bk is L (st) (m_wI m o i.toNatClampNeg x) else none := by simp only [exF, stp, icnd, decide_eq_true_eq]; by_cases h : (m_sh m o).1 = 20 ∧ inb i (m_sh m o).2 = true <;> first | (simp only [if_pos h]; rfl) | (simp only [if_neg h]; rfl) | simp only [if_pos h] | simp only [if_neg h]
theorem x_lastore {i : Int32} {o : Nat} {x : Int64} : exF cal X bk ((.lastore, r1, r2, r3) :: is) L (.long x :: .int i :: .ref o :: st) m = if (m_sh m o).1 = 21 ∧ inb i (m_sh m o).2 = true then exF cal X bk is L (st) (m_wJ m o i.toNatClampNeg x) else none := by simp only [exF, stp, icnd, decide_eq_true_eq]; by_cases h : (m_sh m o).1 = 21 ∧ inb i (m_sh m o).2 = true <;> first | (simp only [if_pos h]; rfl) | (simp only [if_neg h]; rfl) | simp only [if_pos h] | simp only [if_neg h]
theorem x_bastore {i : Int32} {o : Nat} {x : Int32} : exF cal X bk ((.bastore, r1, r2, r3) :: is) L (.int x :: .int i :: .ref o :: st) m = if (m_sh m o).1 = 22 ∧ inb i (m_sh m o).2 = true ∧ x &&& 1 = x then exF cal X bk is L (st) (m_wI m o i.toNatClampNeg x) else none := by simp only [exF, stp, icnd, decide_eq_true_eq]; by_cases h : (m_sh m o).1 = 22 ∧ inb i (m_sh m o).2 = true ∧ x &&& 1 = x <;> first | (simp only [if_pos h]; rfl) | (simp only [if_neg h]; rfl) | simp only [if_pos h] | simp only [if_neg h]
theorem x_aastore {i : Int32} {o : Nat} {x : Nat} : exF cal X bk ((.aastore, r1, r2, r3) :: is) L (.ref x :: .int i :: .ref o :: st) m = if (((m_sh m o).1 = 23 ∧ (m_sh m x).1 = 6) ∨ ((m_sh m o).1 = 24 ∧ (m_sh m x).1 = 9)) ∧ inb i (m_sh m o).2 = true then exF cal X bk is L (st) (m_wR m o i.toNatClampNeg (some x)) else none := by simp only [exF, stp, icnd, decide_eq_true_eq]; by_cases h : (((m_sh m o).1 = 23 ∧ (m_sh m x).1 = 6) ∨ ((m_sh m o).1 = 24 ∧ (m_sh m x).1 = 9)) ∧ inb i (m_sh m o).2 = true <;> first | (simp only [if_pos h]; rfl) | (simp only [if_neg h]; rfl) | simp only [if_pos h] | simp only [if_neg h]
theorem x_alen {o : Nat} : exF cal X bk ((.arraylength, r1, r2, r3) :: is) L (.ref o :: st) m = if 20 ≤ (m_sh m o).1 ∧ (m_sh m o).1 < 25 then exF cal X bk is L (.int (nI (m_sh m o).2) :: st) (m) else none := by simp only [exF, stp, icnd, decide_eq_true_eq]; by_cases h : 20 ≤ (m_sh m o).1 ∧ (m_sh m o).1 < 25 <;> first | (simp only [if_pos h]; rfl) | (simp only [if_neg h]; rfl) | simp only [if_pos h] | simp only [if_neg h]
theorem x_slen {o : UInt32} : exF cal X bk ((.arraylength, r1, r2, r3) :: is) L (.float o :: st) m = if o = 1000 then exF cal X bk is L (.int (nI X.1) :: st) (m) else none := by simp only [exF, stp, icnd, decide_eq_true_eq]; by_cases h : o = 1000 <;> first | (simp only [if_pos h]; rfl) | (simp only [if_neg h]; rfl) | simp only [if_pos h] | simp only [if_neg h]
theorem x_new {n : Nat} : exF cal X bk ((.new n, r1, r2, r3) :: is) L (st) m = exF cal X bk is L (.ref (m_n m) :: st) (m_nw m r1 r2) := rfl
theorem x_newa {t : ArrayType} {x : Int32} : exF cal X bk ((.newarray t, r1, r2, r3) :: is) L (.int x :: st) m = if ¬ x < 0 ∧ x.toNatClampNeg ≤ 65536 then exF cal X bk is L (.ref (m_n m) :: st) (m_nw m r1 x.toNatClampNeg) else none := by simp only [exF, stp, icnd, decide_eq_true_eq]; by_cases h : ¬ x < 0 ∧ x.toNatClampNeg ≤ 65536 <;> first | (simp only [if_pos h]; rfl) | (simp only [if_neg h]; rfl) | simp only [if_pos h] | simp only [if_neg h]
theorem x_anewa {n : Nat} {x : Int32} : exF cal X bk ((.anewarray n, r1, r2, r3) :: is) L (.int x :: st) m = if ¬ x < 0 ∧ x.toNatClampNeg ≤ 65536 then exF cal X bk is L (.ref (m_n m) :: st) (m_nw m r1 x.toNatClampNeg) else none := by simp only [exF, stp, icnd, decide_eq_true_eq]; by_cases h : ¬ x < 0 ∧ x.toNatClampNeg ≤ 65536 <;> first | (simp only [if_pos h]; rfl) | (simp only [if_neg h]; rfl) | simp only [if_pos h] | simp only [if_neg h]
theorem x_invokevirtual1 {n : Nat} : exF cal X bk ((.invokevirtual n, r1, 1, 0) :: is) L (a1 :: st) m = if st.length ≤ 4 then aft (cal r1 [a1] m) (fun v m => exF cal X bk is L (psh v st) m) else none := by show (match (if st.length ≤ 4 then s_call (cal r1 [a1] m) L st else none) with | none => none | some (.inl (L', st', m')) => exF cal X bk is L' st' m' | some (.inr o) => some o) = _; by_cases h : st.length ≤ 4 <;> first | (rw [if_pos h, if_pos h]; cases cal r1 [a1] m <;> rfl) | (rw [if_neg h, if_neg h])
theorem x_invokevirtual2 {n : Nat} : exF cal X bk ((.invokevirtual n, r1, 2, 0) :: is) L (a2 :: a1 :: st) m = if st.length ≤ 4 then aft (cal r1 [a1, a2] m) (fun v m => exF cal X bk is L (psh v st) m) else none := by show (match (if st.length ≤ 4 then s_call (cal r1 [a1, a2] m) L st else none) with | none => none | some (.inl (L', st', m')) => exF cal X bk is L' st' m' | some (.inr o) => some o) = _; by_cases h : st.length ≤ 4 <;> first | (rw [if_pos h, if_pos h]; cases cal r1 [a1, a2] m <;> rfl) | (rw [if_neg h, if_neg h])
theorem x_invokevirtual3 {n : Nat} : exF cal X bk ((.invokevirtual n, r1, 3, 0) :: is) L (a3 :: a2 :: a1 :: st) m = if st.length ≤ 4 then aft (cal r1 [a1, a2, a3] m) (fun v m => exF cal X bk is L (psh v st) m) else none := by show (match (if st.length ≤ 4 then s_call (cal r1 [a1, a2, a3] m) L st else none) with | none => none | some (.inl (L', st', m')) => exF cal X bk is L' st' m' | some (.inr o) => some o) = _; by_cases h : st.length ≤ 4 <;> first | (rw [if_pos h, if_pos h]; cases cal r1 [a1, a2, a3] m <;> rfl) | (rw [if_neg h, if_neg h])
theorem x_invokevirtual4 {n : Nat} : exF cal X bk ((.invokevirtual n, r1, 4, 0) :: is) L (a4 :: a3 :: a2 :: a1 :: st) m = if st.length ≤ 4 then aft (cal r1 [a1, a2, a3, a4] m) (fun v m => exF cal X bk is L (psh v st) m) else none := by show (match (if st.length ≤ 4 then s_call (cal r1 [a1, a2, a3, a4] m) L st else none) with | none => none | some (.inl (L', st', m')) => exF cal X bk is L' st' m' | some (.inr o) => some o) = _; by_cases h : st.length ≤ 4 <;> first | (rw [if_pos h, if_pos h]; cases cal r1 [a1, a2, a3, a4] m <;> rfl) | (rw [if_neg h, if_neg h])
theorem x_invokevirtual5 {n : Nat} : exF cal X bk ((.invokevirtual n, r1, 5, 0) :: is) L (a5 :: a4 :: a3 :: a2 :: a1 :: st) m = if st.length ≤ 4 then aft (cal r1 [a1, a2, a3, a4, a5] m) (fun v m => exF cal X bk is L (psh v st) m) else none := by show (match (if st.length ≤ 4 then s_call (cal r1 [a1, a2, a3, a4, a5] m) L st else none) with | none => none | some (.inl (L', st', m')) => exF cal X bk is L' st' m' | some (.inr o) => some o) = _; by_cases h : st.length ≤ 4 <;> first | (rw [if_pos h, if_pos h]; cases cal r1 [a1, a2, a3, a4, a5] m <;> rfl) | (rw [if_neg h, if_neg h])
theorem x_invokevirtual6 {n : Nat} : exF cal X bk ((.invokevirtual n, r1, 6, 0) :: is) L (a6 :: a5 :: a4 :: a3 :: a2 :: a1 :: st) m = if st.length ≤ 4 then aft (cal r1 [a1, a2, a3, a4, a5, a6] m) (fun v m => exF cal X bk is L (psh v st) m) else none := by show (match (if st.length ≤ 4 then s_call (cal r1 [a1, a2, a3, a4, a5, a6] m) L st else none) with | none => none | some (.inl (L', st', m')) => exF cal X bk is L' st' m' | some (.inr o) => some o) = _; by_cases h : st.length ≤ 4 <;> first | (rw [if_pos h, if_pos h]; cases cal r1 [a1, a2, a3, a4, a5, a6] m <;> rfl) | (rw [if_neg h, if_neg h])
theorem x_invokestatic0 {n : Nat} : exF cal X bk ((.invokestatic n, r1, 0, 0) :: is) L (st) m = if st.length ≤ 4 then aft (cal r1 [] m) (fun v m => exF cal X bk is L (psh v st) m) else none := by show (match (if st.length ≤ 4 then s_call (cal r1 [] m) L st else none) with | none => none | some (.inl (L', st', m')) => exF cal X bk is L' st' m' | some (.inr o) => some o) = _; by_cases h : st.length ≤ 4 <;> first | (rw [if_pos h, if_pos h]; cases cal r1 [] m <;> rfl) | (rw [if_neg h, if_neg h])
theorem x_invokestatic1 {n : Nat} : exF cal X bk ((.invokestatic n, r1, 1, 0) :: is) L (a1 :: st) m = if st.length ≤ 4 then aft (cal r1 [a1] m) (fun v m => exF cal X bk is L (psh v st) m) else none := by show (match (if st.length ≤ 4 then s_call (cal r1 [a1] m) L st else none) with | none => none | some (.inl (L', st', m')) => exF cal X bk is L' st' m' | some (.inr o) => some o) = _; by_cases h : st.length ≤ 4 <;> first | (rw [if_pos h, if_pos h]; cases cal r1 [a1] m <;> rfl) | (rw [if_neg h, if_neg h])
theorem x_invokestatic2 {n : Nat} : exF cal X bk ((.invokestatic n, r1, 2, 0) :: is) L (a2 :: a1 :: st) m = if st.length ≤ 4 then aft (cal r1 [a1, a2] m) (fun v m => exF cal X bk is L (psh v st) m) else none := by show (match (if st.length ≤ 4 then s_call (cal r1 [a1, a2] m) L st else none) with | none => none | some (.inl (L', st', m')) => exF cal X bk is L' st' m' | some (.inr o) => some o) = _; by_cases h : st.length ≤ 4 <;> first | (rw [if_pos h, if_pos h]; cases cal r1 [a1, a2] m <;> rfl) | (rw [if_neg h, if_neg h])
theorem x_invokestatic3 {n : Nat} : exF cal X bk ((.invokestatic n, r1, 3, 0) :: is) L (a3 :: a2 :: a1 :: st) m = if st.length ≤ 4 then aft (cal r1 [a1, a2, a3] m) (fun v m => exF cal X bk is L (psh v st) m) else none := by show (match (if st.length ≤ 4 then s_call (cal r1 [a1, a2, a3] m) L st else none) with | none => none | some (.inl (L', st', m')) => exF cal X bk is L' st' m' | some (.inr o) => some o) = _; by_cases h : st.length ≤ 4 <;> first | (rw [if_pos h, if_pos h]; cases cal r1 [a1, a2, a3] m <;> rfl) | (rw [if_neg h, if_neg h])
theorem x_invokestatic4 {n : Nat} : exF cal X bk ((.invokestatic n, r1, 4, 0) :: is) L (a4 :: a3 :: a2 :: a1 :: st) m = if st.length ≤ 4 then aft (cal r1 [a1, a2, a3, a4] m) (fun v m => exF cal X bk is L (psh v st) m) else none := by show (match (if st.length ≤ 4 then s_call (cal r1 [a1, a2, a3, a4] m) L st else none) with | none => none | some (.inl (L', st', m')) => exF cal X bk is L' st' m' | some (.inr o) => some o) = _; by_cases h : st.length ≤ 4 <;> first | (rw [if_pos h, if_pos h]; cases cal r1 [a1, a2, a3, a4] m <;> rfl) | (rw [if_neg h, if_neg h])
theorem x_invokestatic5 {n : Nat} : exF cal X bk ((.invokestatic n, r1, 5, 0) :: is) L (a5 :: a4 :: a3 :: a2 :: a1 :: st) m = if st.length ≤ 4 then aft (cal r1 [a1, a2, a3, a4, a5] m) (fun v m => exF cal X bk is L (psh v st) m) else none := by show (match (if st.length ≤ 4 then s_call (cal r1 [a1, a2, a3, a4, a5] m) L st else none) with | none => none | some (.inl (L', st', m')) => exF cal X bk is L' st' m' | some (.inr o) => some o) = _; by_cases h : st.length ≤ 4 <;> first | (rw [if_pos h, if_pos h]; cases cal r1 [a1, a2, a3, a4, a5] m <;> rfl) | (rw [if_neg h, if_neg h])
theorem x_invokestatic6 {n : Nat} : exF cal X bk ((.invokestatic n, r1, 6, 0) :: is) L (a6 :: a5 :: a4 :: a3 :: a2 :: a1 :: st) m = if st.length ≤ 4 then aft (cal r1 [a1, a2, a3, a4, a5, a6] m) (fun v m => exF cal X bk is L (psh v st) m) else none := by show (match (if st.length ≤ 4 then s_call (cal r1 [a1, a2, a3, a4, a5, a6] m) L st else none) with | none => none | some (.inl (L', st', m')) => exF cal X bk is L' st' m' | some (.inr o) => some o) = _; by_cases h : st.length ≤ 4 <;> first | (rw [if_pos h, if_pos h]; cases cal r1 [a1, a2, a3, a4, a5, a6] m <;> rfl) | (rw [if_neg h, if_neg h])
theorem x_invokespecial1 {n : Nat} : exF cal X bk ((.invokespecial n, r1, 1, 0) :: is) L (a1 :: st) m = if st.length ≤ 4 then aft (cal r1 [a1] m) (fun v m => exF cal X bk is L (psh v st) m) else none := by show (match (if st.length ≤ 4 then s_call (cal r1 [a1] m) L st else none) with | none => none | some (.inl (L', st', m')) => exF cal X bk is L' st' m' | some (.inr o) => some o) = _; by_cases h : st.length ≤ 4 <;> first | (rw [if_pos h, if_pos h]; cases cal r1 [a1] m <;> rfl) | (rw [if_neg h, if_neg h])
theorem x_invokespecial2 {n : Nat} : exF cal X bk ((.invokespecial n, r1, 2, 0) :: is) L (a2 :: a1 :: st) m = if st.length ≤ 4 then aft (cal r1 [a1, a2] m) (fun v m => exF cal X bk is L (psh v st) m) else none := by show (match (if st.length ≤ 4 then s_call (cal r1 [a1, a2] m) L st else none) with | none => none | some (.inl (L', st', m')) => exF cal X bk is L' st' m' | some (.inr o) => some o) = _; by_cases h : st.length ≤ 4 <;> first | (rw [if_pos h, if_pos h]; cases cal r1 [a1, a2] m <;> rfl) | (rw [if_neg h, if_neg h])
theorem x_invokespecial3 {n : Nat} : exF cal X bk ((.invokespecial n, r1, 3, 0) :: is) L (a3 :: a2 :: a1 :: st) m = if st.length ≤ 4 then aft (cal r1 [a1, a2, a3] m) (fun v m => exF cal X bk is L (psh v st) m) else none := by show (match (if st.length ≤ 4 then s_call (cal r1 [a1, a2, a3] m) L st else none) with | none => none | some (.inl (L', st', m')) => exF cal X bk is L' st' m' | some (.inr o) => some o) = _; by_cases h : st.length ≤ 4 <;> first | (rw [if_pos h, if_pos h]; cases cal r1 [a1, a2, a3] m <;> rfl) | (rw [if_neg h, if_neg h])
theorem x_invokespecial4 {n : Nat} : exF cal X bk ((.invokespecial n, r1, 4, 0) :: is) L (a4 :: a3 :: a2 :: a1 :: st) m = if st.length ≤ 4 then aft (cal r1 [a1, a2, a3, a4] m) (fun v m => exF cal X bk is L (psh v st) m) else none := by show (match (if st.length ≤ 4 then s_call (cal r1 [a1, a2, a3, a4] m) L st else none) with | none => none | some (.inl (L', st', m')) => exF cal X bk is L' st' m' | some (.inr o) => some o) = _; by_cases h : st.length ≤ 4 <;> first | (rw [if_pos h, if_pos h]; cases cal r1 [a1, a2, a3, a4] m <;> rfl) | (rw [if_neg h, if_neg h])
theorem x_invokespecial5 {n : Nat} : exF cal X bk ((.invokespecial n, r1, 5, 0) :: is) L (a5 :: a4 :: a3 :: a2 :: a1 :: st) m = if st.length ≤ 4 then aft (cal r1 [a1, a2, a3, a4, a5] m) (fun v m => exF cal X bk is L (psh v st) m) else none := by show (match (if st.length ≤ 4 then s_call (cal r1 [a1, a2, a3, a4, a5] m) L st else none) with | none => none | some (.inl (L', st', m')) => exF cal X bk is L' st' m' | some (.inr o) => some o) = _; by_cases h : st.length ≤ 4 <;> first | (rw [if_pos h, if_pos h]; cases cal r1 [a1, a2, a3, a4, a5] m <;> rfl) | (rw [if_neg h, if_neg h])
theorem x_invokespecial6 {n : Nat} : exF cal X bk ((.invokespecial n, r1, 6, 0) :: is) L (a6 :: a5 :: a4 :: a3 :: a2 :: a1 :: st) m = if st.length ≤ 4 then aft (cal r1 [a1, a2, a3, a4, a5, a6] m) (fun v m => exF cal X bk is L (psh v st) m) else none := by show (match (if st.length ≤ 4 then s_call (cal r1 [a1, a2, a3, a4, a5, a6] m) L st else none) with | none => none | some (.inl (L', st', m')) => exF cal X bk is L' st' m' | some (.inr o) => some o) = _; by_cases h : st.length ≤ 4 <;> first | (rw [if_pos h, if_pos h]; cases cal r1 [a1, a2, a3, a4, a5, a6] m <;> rfl) | (rw [if_neg h, if_neg h])
theorem x_objinit {n o : Nat} : exF cal X bk ((.invokespecial n, r1, r2, 3) :: is) L (.ref o :: st) m = if st.length ≤ 4 then exF cal X bk is L (st) (m) else none := by simp only [exF, stp, icnd, decide_eq_true_eq]; by_cases h : st.length ≤ 4 <;> first | (simp only [if_pos h]; rfl) | (simp only [if_neg h]; rfl) | simp only [if_pos h] | simp only [if_neg h]
theorem x_mmax {n : Nat} {x y : Int32} : exF cal X bk ((.invokestatic n, r1, r2, 4) :: is) L (.int y :: .int x :: st) m = if st.length ≤ 4 then exF cal X bk is L (.int (if x < y then y else x) :: st) (m) else none := by simp only [exF, stp, icnd, decide_eq_true_eq]; by_cases h : st.length ≤ 4 <;> first | (simp only [if_pos h]; rfl) | (simp only [if_neg h]; rfl) | simp only [if_pos h] | simp only [if_neg h]
theorem x_mmin {n : Nat} {x y : Int32} : exF cal X bk ((.invokestatic n, r1, r2, 5) :: is) L (.int y :: .int x :: st) m = if st.length ≤ 4 then exF cal X bk is L (.int (if y < x then y else x) :: st) (m) else none := by simp only [exF, stp, icnd, decide_eq_true_eq]; by_cases h : st.length ≤ 4 <;> first | (simp only [if_pos h]; rfl) | (simp only [if_neg h]; rfl) | simp only [if_pos h] | simp only [if_neg h]
theorem x_acp1 {k b c : Nat} {n dp sp : Int32} : exF cal X bk ((.invokestatic k, r1, r2, 1) :: is) L (.int n :: .int dp :: .ref b :: .int sp :: .ref c :: st) m = if st.length ≤ 4 ∧ (m_sh m c).1 = 20 ∧ (m_sh m b).1 = 20 ∧ ¬ n < 0 ∧ ¬ dp < 0 ∧ ¬ sp < 0 ∧ sp.toNatClampNeg + n.toNatClampNeg ≤ (m_sh m c).2 ∧ dp.toNatClampNeg + n.toNatClampNeg ≤ (m_sh m b).2 then exF cal X bk is L (st) (m_rI m b (va_cpy (m_I m c) (m_I m b) sp.toNatClampNeg dp.toNatClampNeg n.toNatClampNeg)) else none := by simp only [exF, stp, icnd, decide_eq_true_eq]; by_cases h : st.length ≤ 4 ∧ (m_sh m c).1 = 20 ∧ (m_sh m b).1 = 20 ∧ ¬ n < 0 ∧ ¬ dp < 0 ∧ ¬ sp < 0 ∧ sp.toNatClampNeg + n.toNatClampNeg ≤ (m_sh m c).2 ∧ dp.toNatClampNeg + n.toNatClampNeg ≤ (m_sh m b).2 <;> first | (simp only [if_pos h]; rfl) | (simp only [if_neg h]; rfl) | simp only [if_pos h] | simp only [if_neg h]
theorem x_acp2 {k b c : Nat} {n dp sp : Int32} : exF cal X bk ((.invokestatic k, r1, r2, 2) :: is) L (.int n :: .int dp :: .ref b :: .int sp :: .ref c :: st) m = if st.length ≤ 4 ∧ (m_sh m c).1 = 21 ∧ (m_sh m b).1 = 21 ∧ ¬ n < 0 ∧ ¬ dp < 0 ∧ ¬ sp < 0 ∧ sp.toNatClampNeg + n.toNatClampNeg ≤ (m_sh m c).2 ∧ dp.toNatClampNeg + n.toNatClampNeg ≤ (m_sh m b).2 then exF cal X bk is L (st) (m_rJ m b (va_cpy (m_J m c) (m_J m b) sp.toNatClampNeg dp.toNatClampNeg n.toNatClampNeg)) else none := by simp only [exF, stp, icnd, decide_eq_true_eq]; by_cases h : st.length ≤ 4 ∧ (m_sh m c).1 = 21 ∧ (m_sh m b).1 = 21 ∧ ¬ n < 0 ∧ ¬ dp < 0 ∧ ¬ sp < 0 ∧ sp.toNatClampNeg + n.toNatClampNeg ≤ (m_sh m c).2 ∧ dp.toNatClampNeg + n.toNatClampNeg ≤ (m_sh m b).2 <;> first | (simp only [if_pos h]; rfl) | (simp only [if_neg h]; rfl) | simp only [if_pos h] | simp only [if_neg h]
theorem x_ireturn0 {x : Int32} : exF cal X bk ((.ireturn, 0, r2, r3) :: is) L ([.int x]) m = some (.inl (some (.int x), m)) := rfl
theorem x_ireturn1 {x : Int32} : exF cal X bk ((.ireturn, 1, r2, r3) :: is) L ([.int x]) m = if x &&& 1 = x then some (.inl (some (.int x), m)) else none := by simp only [exF, stp, icnd, decide_eq_true_eq]; by_cases h : x &&& 1 = x <;> first | (simp only [if_pos h]; rfl) | (simp only [if_neg h]; rfl) | simp only [if_pos h] | simp only [if_neg h]
theorem x_lreturn {x : Int64} : exF cal X bk ((.lreturn, r1, r2, r3) :: is) L ([.long x]) m = some (.inl (some (.long x), m)) := rfl
theorem x_return : exF cal X bk ((.return_, r1, r2, r3) :: is) L ([]) m = some (.inl (none, m)) := rfl
theorem x_nil : exF cal X bk [] L st m = some (.inr (bk + 1, L, st, m)) := rfl
end XS
theorem lg_0 {v0 : Value} {l : List Value} : lget (v0 :: l) 0 = v0 := rfl
theorem lg_1 {v0 v1 : Value} {l : List Value} : lget (v0 :: v1 :: l) 1 = v1 := rfl
theorem lg_2 {v0 v1 v2 : Value} {l : List Value} : lget (v0 :: v1 :: v2 :: l) 2 = v2 := rfl
theorem lg_3 {v0 v1 v2 v3 : Value} {l : List Value} : lget (v0 :: v1 :: v2 :: v3 :: l) 3 = v3 := rfl
theorem lg_4 {v0 v1 v2 v3 v4 : Value} {l : List Value} : lget (v0 :: v1 :: v2 :: v3 :: v4 :: l) 4 = v4 := rfl
theorem lg_5 {v0 v1 v2 v3 v4 v5 : Value} {l : List Value} : lget (v0 :: v1 :: v2 :: v3 :: v4 :: v5 :: l) 5 = v5 := rfl
theorem lg_6 {v0 v1 v2 v3 v4 v5 v6 : Value} {l : List Value} : lget (v0 :: v1 :: v2 :: v3 :: v4 :: v5 :: v6 :: l) 6 = v6 := rfl
theorem lg_7 {v0 v1 v2 v3 v4 v5 v6 v7 : Value} {l : List Value} : lget (v0 :: v1 :: v2 :: v3 :: v4 :: v5 :: v6 :: v7 :: l) 7 = v7 := rfl
theorem lg_8 {v0 v1 v2 v3 v4 v5 v6 v7 v8 : Value} {l : List Value} : lget (v0 :: v1 :: v2 :: v3 :: v4 :: v5 :: v6 :: v7 :: v8 :: l) 8 = v8 := rfl
theorem lg_9 {v0 v1 v2 v3 v4 v5 v6 v7 v8 v9 : Value} {l : List Value} : lget (v0 :: v1 :: v2 :: v3 :: v4 :: v5 :: v6 :: v7 :: v8 :: v9 :: l) 9 = v9 := rfl
theorem lg_10 {v0 v1 v2 v3 v4 v5 v6 v7 v8 v9 v10 : Value} {l : List Value} : lget (v0 :: v1 :: v2 :: v3 :: v4 :: v5 :: v6 :: v7 :: v8 :: v9 :: v10 :: l) 10 = v10 := rfl
theorem lg_11 {v0 v1 v2 v3 v4 v5 v6 v7 v8 v9 v10 v11 : Value} {l : List Value} : lget (v0 :: v1 :: v2 :: v3 :: v4 :: v5 :: v6 :: v7 :: v8 :: v9 :: v10 :: v11 :: l) 11 = v11 := rfl
theorem lg_12 {v0 v1 v2 v3 v4 v5 v6 v7 v8 v9 v10 v11 v12 : Value} {l : List Value} : lget (v0 :: v1 :: v2 :: v3 :: v4 :: v5 :: v6 :: v7 :: v8 :: v9 :: v10 :: v11 :: v12 :: l) 12 = v12 := rfl
theorem lg_13 {v0 v1 v2 v3 v4 v5 v6 v7 v8 v9 v10 v11 v12 v13 : Value} {l : List Value} : lget (v0 :: v1 :: v2 :: v3 :: v4 :: v5 :: v6 :: v7 :: v8 :: v9 :: v10 :: v11 :: v12 :: v13 :: l) 13 = v13 := rfl
theorem ls_0 {v0 w : Value} {l : List Value} : lst1 (v0 :: l) 0 w = w :: l := rfl
theorem ls_1 {v0 v1 w : Value} {l : List Value} : lst1 (v0 :: v1 :: l) 1 w = kil v0 :: w :: l := rfl
theorem ls_2 {v0 v1 v2 w : Value} {l : List Value} : lst1 (v0 :: v1 :: v2 :: l) 2 w = v0 :: kil v1 :: w :: l := rfl
theorem ls_3 {v0 v1 v2 v3 w : Value} {l : List Value} : lst1 (v0 :: v1 :: v2 :: v3 :: l) 3 w = v0 :: v1 :: kil v2 :: w :: l := rfl
theorem ls_4 {v0 v1 v2 v3 v4 w : Value} {l : List Value} : lst1 (v0 :: v1 :: v2 :: v3 :: v4 :: l) 4 w = v0 :: v1 :: v2 :: kil v3 :: w :: l := rfl
theorem ls_5 {v0 v1 v2 v3 v4 v5 w : Value} {l : List Value} : lst1 (v0 :: v1 :: v2 :: v3 :: v4 :: v5 :: l) 5 w = v0 :: v1 :: v2 :: v3 :: kil v4 :: w :: l := rfl
theorem ls_6 {v0 v1 v2 v3 v4 v5 v6 w : Value} {l : List Value} : lst1 (v0 :: v1 :: v2 :: v3 :: v4 :: v5 :: v6 :: l) 6 w = v0 :: v1 :: v2 :: v3 :: v4 :: kil v5 :: w :: l := rfl
theorem ls_7 {v0 v1 v2 v3 v4 v5 v6 v7 w : Value} {l : List Value} : lst1 (v0 :: v1 :: v2 :: v3 :: v4 :: v5 :: v6 :: v7 :: l) 7 w = v0 :: v1 :: v2 :: v3 :: v4 :: v5 :: kil v6 :: w :: l := rfl
theorem ls_8 {v0 v1 v2 v3 v4 v5 v6 v7 v8 w : Value} {l : List Value} : lst1 (v0 :: v1 :: v2 :: v3 :: v4 :: v5 :: v6 :: v7 :: v8 :: l) 8 w = v0 :: v1 :: v2 :: v3 :: v4 :: v5 :: v6 :: kil v7 :: w :: l := rfl
theorem ls_9 {v0 v1 v2 v3 v4 v5 v6 v7 v8 v9 w : Value} {l : List Value} : lst1 (v0 :: v1 :: v2 :: v3 :: v4 :: v5 :: v6 :: v7 :: v8 :: v9 :: l) 9 w = v0 :: v1 :: v2 :: v3 :: v4 :: v5 :: v6 :: v7 :: kil v8 :: w :: l := rfl
theorem ls_10 {v0 v1 v2 v3 v4 v5 v6 v7 v8 v9 v10 w : Value} {l : List Value} : lst1 (v0 :: v1 :: v2 :: v3 :: v4 :: v5 :: v6 :: v7 :: v8 :: v9 :: v10 :: l) 10 w = v0 :: v1 :: v2 :: v3 :: v4 :: v5 :: v6 :: v7 :: v8 :: kil v9 :: w :: l := rfl
theorem ls_11 {v0 v1 v2 v3 v4 v5 v6 v7 v8 v9 v10 v11 w : Value} {l : List Value} : lst1 (v0 :: v1 :: v2 :: v3 :: v4 :: v5 :: v6 :: v7 :: v8 :: v9 :: v10 :: v11 :: l) 11 w = v0 :: v1 :: v2 :: v3 :: v4 :: v5 :: v6 :: v7 :: v8 :: v9 :: kil v10 :: w :: l := rfl
theorem ls_12 {v0 v1 v2 v3 v4 v5 v6 v7 v8 v9 v10 v11 v12 w : Value} {l : List Value} : lst1 (v0 :: v1 :: v2 :: v3 :: v4 :: v5 :: v6 :: v7 :: v8 :: v9 :: v10 :: v11 :: v12 :: l) 12 w = v0 :: v1 :: v2 :: v3 :: v4 :: v5 :: v6 :: v7 :: v8 :: v9 :: v10 :: kil v11 :: w :: l := rfl
theorem ls_13 {v0 v1 v2 v3 v4 v5 v6 v7 v8 v9 v10 v11 v12 v13 w : Value} {l : List Value} : lst1 (v0 :: v1 :: v2 :: v3 :: v4 :: v5 :: v6 :: v7 :: v8 :: v9 :: v10 :: v11 :: v12 :: v13 :: l) 13 w = v0 :: v1 :: v2 :: v3 :: v4 :: v5 :: v6 :: v7 :: v8 :: v9 :: v10 :: v11 :: kil v12 :: w :: l := rfl
theorem lu_0 {v0 v1 w : Value} {l : List Value} : lst2 (v0 :: v1 :: l) 0 w = w :: .retAddr 0 :: l := rfl
theorem lu_1 {v0 v1 v2 w : Value} {l : List Value} : lst2 (v0 :: v1 :: v2 :: l) 1 w = kil v0 :: w :: .retAddr 0 :: l := rfl
theorem lu_2 {v0 v1 v2 v3 w : Value} {l : List Value} : lst2 (v0 :: v1 :: v2 :: v3 :: l) 2 w = v0 :: kil v1 :: w :: .retAddr 0 :: l := rfl
theorem lu_3 {v0 v1 v2 v3 v4 w : Value} {l : List Value} : lst2 (v0 :: v1 :: v2 :: v3 :: v4 :: l) 3 w = v0 :: v1 :: kil v2 :: w :: .retAddr 0 :: l := rfl
theorem lu_4 {v0 v1 v2 v3 v4 v5 w : Value} {l : List Value} : lst2 (v0 :: v1 :: v2 :: v3 :: v4 :: v5 :: l) 4 w = v0 :: v1 :: v2 :: kil v3 :: w :: .retAddr 0 :: l := rfl
theorem lu_5 {v0 v1 v2 v3 v4 v5 v6 w : Value} {l : List Value} : lst2 (v0 :: v1 :: v2 :: v3 :: v4 :: v5 :: v6 :: l) 5 w = v0 :: v1 :: v2 :: v3 :: kil v4 :: w :: .retAddr 0 :: l := rfl
theorem lu_6 {v0 v1 v2 v3 v4 v5 v6 v7 w : Value} {l : List Value} : lst2 (v0 :: v1 :: v2 :: v3 :: v4 :: v5 :: v6 :: v7 :: l) 6 w = v0 :: v1 :: v2 :: v3 :: v4 :: kil v5 :: w :: .retAddr 0 :: l := rfl
theorem lu_7 {v0 v1 v2 v3 v4 v5 v6 v7 v8 w : Value} {l : List Value} : lst2 (v0 :: v1 :: v2 :: v3 :: v4 :: v5 :: v6 :: v7 :: v8 :: l) 7 w = v0 :: v1 :: v2 :: v3 :: v4 :: v5 :: kil v6 :: w :: .retAddr 0 :: l := rfl
theorem lu_8 {v0 v1 v2 v3 v4 v5 v6 v7 v8 v9 w : Value} {l : List Value} : lst2 (v0 :: v1 :: v2 :: v3 :: v4 :: v5 :: v6 :: v7 :: v8 :: v9 :: l) 8 w = v0 :: v1 :: v2 :: v3 :: v4 :: v5 :: v6 :: kil v7 :: w :: .retAddr 0 :: l := rfl
theorem lu_9 {v0 v1 v2 v3 v4 v5 v6 v7 v8 v9 v10 w : Value} {l : List Value} : lst2 (v0 :: v1 :: v2 :: v3 :: v4 :: v5 :: v6 :: v7 :: v8 :: v9 :: v10 :: l) 9 w = v0 :: v1 :: v2 :: v3 :: v4 :: v5 :: v6 :: v7 :: kil v8 :: w :: .retAddr 0 :: l := rfl
theorem lu_10 {v0 v1 v2 v3 v4 v5 v6 v7 v8 v9 v10 v11 w : Value} {l : List Value} : lst2 (v0 :: v1 :: v2 :: v3 :: v4 :: v5 :: v6 :: v7 :: v8 :: v9 :: v10 :: v11 :: l) 10 w = v0 :: v1 :: v2 :: v3 :: v4 :: v5 :: v6 :: v7 :: v8 :: kil v9 :: w :: .retAddr 0 :: l := rfl
theorem lu_11 {v0 v1 v2 v3 v4 v5 v6 v7 v8 v9 v10 v11 v12 w : Value} {l : List Value} : lst2 (v0 :: v1 :: v2 :: v3 :: v4 :: v5 :: v6 :: v7 :: v8 :: v9 :: v10 :: v11 :: v12 :: l) 11 w = v0 :: v1 :: v2 :: v3 :: v4 :: v5 :: v6 :: v7 :: v8 :: v9 :: kil v10 :: w :: .retAddr 0 :: l := rfl
theorem kil_i {x : Int32} : kil (.int x) = .int x := rfl
theorem kil_r {x : Nat} : kil (.ref x) = .ref x := rfl
theorem kil_f {x : UInt32} : kil (.float x) = .float x := rfl
theorem kil_u {x : Nat} : kil (.retAddr x) = .retAddr x := rfl
theorem kil_l {x : Int64} : kil (.long x) = .retAddr 0 := rfl
theorem rf_s {x : Nat} : va_rf (some x) = .ref x := rfl
-- all of them, for simp only [XX]
def XX := And.intro @x_iconst0 ( And.intro @x_iconst1 ( And.intro @x_iconst2 ( And.intro @x_bipush0 ( And.intro @x_bipush1 ( And.intro @x_bipush2 ( And.intro @x_sipush0 ( And.intro @x_sipush1 ( And.intro @x_sipush2 ( And.intro @x_ldc0 ( And.intro @x_ldc1 ( And.intro @x_ldc2 ( And.intro @x_ldc_w0 ( And.intro @x_ldc_w1 ( And.intro @x_ldc_w2 ( And.intro @x_ldcs ( And.intro @x_lconst ( And.intro @x_ldcl ( And.intro @x_ldcln ( And.intro @x_iload ( And.intro @x_iload_n ( And.intro @x_lload ( And.intro @x_lload_n ( And.intro @x_aload ( And.intro @x_aload_n ( And.intro @x_istore ( And.intro @x_istore_n ( And.intro @x_lstore ( And.intro @x_lstore_n ( And.intro @x_astore ( And.intro @x_astore_n ( And.intro @x_iinc0 ( And.intro @x_iinc1 ( And.intro @x_iadd ( And.intro @x_isub ( And.intro @x_imul ( And.intro @x_iand ( And.intro @x_ior ( And.intro @x_ixor ( And.intro @x_ishl ( And.intro @x_ishr ( And.intro @x_iushr ( And.intro @x_idiv ( And.intro @x_irem ( And.intro @x_ineg ( And.intro @x_ladd ( And.intro @x_lsub ( And.intro @x_lmul ( And.intro @x_land ( And.intro @x_lor ( And.intro @x_lxor ( And.intro @x_lneg ( And.intro @x_lshl ( And.intro @x_lushr ( And.intro @x_lcmp ( And.intro @x_i2l ( And.intro @x_l2i ( And.intro @x_i2c ( And.intro @x_dupi ( And.intro @x_dupr ( And.intro @x_popi ( And.intro @x_popr ( And.intro @x_dup2 ( And.intro @x_goto ( And.intro @x_icmp_eq ( And.intro @x_if_eq ( And.intro @x_icmp_ne ( And.intro @x_if_ne ( And.intro @x_icmp_lt ( And.intro @x_if_lt ( And.intro @x_icmp_ge ( And.intro @x_if_ge ( And.intro @x_icmp_gt ( And.intro @x_if_gt ( And.intro @x_icmp_le ( And.intro @x_if_le ( And.intro @x_tsw ( And.intro @x_lsw ( And.intro @x_get0 ( And.intro @x_get1 ( And.intro @x_get2 ( And.intro @x_put0 ( And.intro @x_put1 ( And.intro @x_put2 ( And.intro @x_put3 ( And.intro @x_iaload ( And.intro @x_laload ( And.intro @x_baload ( And.intro @x_aaload ( And.intro @x_sald ( And.intro @x_iastore ( And.intro @x_lastore ( And.intro @x_bastore ( And.intro @x_aastore ( And.intro @x_alen ( And.intro @x_slen ( And.intro @x_new ( And.intro @x_newa ( And.intro @x_anewa ( And.intro @x_invokevirtual1 ( And.intro @x_invokevirtual2 ( And.intro @x_invokevirtual3 ( And.intro @x_invokevirtual4 ( And.intro @x_invokevirtual5 ( And.intro @x_invokevirtual6 ( And.intro @x_invokestatic0 ( And.intro @x_invokestatic1 ( And.intro @x_invokestatic2 ( And.intro @x_invokestatic3 ( And.intro @x_invokestatic4 ( And.intro @x_invokestatic5 ( And.intro @x_invokestatic6 ( And.intro @x_invokespecial1 ( And.intro @x_invokespecial2 ( And.intro @x_invokespecial3 ( And.intro @x_invokespecial4 ( And.intro @x_invokespecial5 ( And.intro @x_invokespecial6 ( And.intro @x_objinit ( And.intro @x_mmax ( And.intro @x_mmin ( And.intro @x_acp1 ( And.intro @x_acp2 ( And.intro @x_ireturn0 ( And.intro @x_ireturn1 ( And.intro @x_lreturn ( And.intro @x_return ( And.intro @x_nil ( And.intro @lg_0 ( And.intro @lg_1 ( And.intro @lg_2 ( And.intro @lg_3 ( And.intro @lg_4 ( And.intro @lg_5 ( And.intro @lg_6 ( And.intro @lg_7 ( And.intro @lg_8 ( And.intro @lg_9 ( And.intro @lg_10 ( And.intro @lg_11 ( And.intro @lg_12 ( And.intro @lg_13 ( And.intro @ls_0 ( And.intro @ls_1 ( And.intro @ls_2 ( And.intro @ls_3 ( And.intro @ls_4 ( And.intro @ls_5 ( And.intro @ls_6 ( And.intro @ls_7 ( And.intro @ls_8 ( And.intro @ls_9 ( And.intro @ls_10 ( And.intro @ls_11 ( And.intro @ls_12 ( And.intro @ls_13 ( And.intro @lu_0 ( And.intro @lu_1 ( And.intro @lu_2 ( And.intro @lu_3 ( And.intro @lu_4 ( And.intro @lu_5 ( And.intro @lu_6 ( And.intro @lu_7 ( And.intro @lu_8 ( And.intro @lu_9 ( And.intro @lu_10 ( And.intro @lu_11 ( And.intro @kil_i ( And.intro @kil_r ( And.intro @kil_f ( And.intro @kil_u ( And.intro @kil_l ( And.intro @rf_s ( And.intro @ldi_i ( And.intro @ldl_l ( And.intro @lda_r ( And.intro @lda_f ( And.intro @aft_s ( And.intro @psh_n ( And.intro @psh_s ( And.intro @EvK_r ( And.intro @EvK_j ( And.intro @EvK_if ( And.intro @swk_0 (@swk_1)))))))))))))))))))))))))))))))))))))))))))))))))))))))))))))))))))))))))))))))))))))))))))))))))))))))))))))))))))))))))))))))))))))))))))))))))))))))))))))))))))))))))))))))))))))))))
