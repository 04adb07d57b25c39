/-! ===== the rest of a division ===== -/
theorem n_xor {a b : Nat} : nI a ^^^ nI b = nI (a ^^^ b) := by
  apply b_ext
  intro i hi
  rw [b_xor, bt_nI hi, bt_nI hi, bt_nI hi, Nat.testBit_xor]
theorem s_floorMod {X : Nat × (Nat → Int32)} {d : Nat} {M : Mem} {a m : Nat} (hd : 1 ≤ d) (ha : a < 2 ^ 31) (hm0 : 0 < m) (hm : m < 2 ^ 31) : callF X d 261 [.int (nI a), .int (nI m)] M = some (some (.int (nI (a % m))), M) := by
  have z : ¬ nI m = 0 := fun z => by rw [q_eq0 (by omega)] at z; omega
  have h1 : a / m * m ≤ a := Nat.div_mul_le_self a m
  have h2 : a / m ≤ a := Nat.div_le_self a m
  have e : a - a / m * m = a % m := by
    have := Nat.div_add_mod a m
    rw [Nat.mul_comm] at this; omega
  have x1 : a ^^^ m < 2 ^ 31 := Nat.xor_lt_two_pow ha hm
  have e2 : a % m < 2 ^ 31 := Nat.lt_of_le_of_lt (Nat.mod_le a m) ha
  refine callF_at (by omega) (by decide) (Nat.le_of_ble_eq_true rfl) (fun d _ => ?_)
  show Ev X d 261 0 [.int (nI a), .int (nI m), .retAddr 0] [] M _
  simp (disch := first | omega | assumption | exact rfl) only [U_261_0, U_261_3, XX, QQ, WW, KK, QX, SHs, RRs, Nat.reduceAdd, Nat.reduceMul, Nat.reduceLeDiff, Nat.reduceEqDiff, List.length_cons, List.length_nil, decide_true, decide_false, Bool.true_and, Bool.and_true, Bool.false_and, Bool.and_false, false_and, and_false, Bool.false_eq_true, Bool.true_eq_false, reduceCtorEq, eq_self, if_true, if_false, true_and, and_true, not_true_eq_false, not_false_eq_true, if_pos, if_neg, z_ite_not, false_or, or_false, true_or, or_true, SWs, swk_0, swk_1, z, q_div, e, n_xor]
