/-! ===== mixing ===== -/
theorem u8 (x : Int32) : (x.toUInt32 >>> ((nI 8).toUInt32 &&& Int32.toUInt32 31)).toInt32 = nI (x.toUInt32.toNat / 256) := by
  have e : ((nI 8).toUInt32 &&& Int32.toUInt32 31) = 8 := by decide +kernel
  rw [e]
  have h : x.toUInt32 >>> (8 : UInt32) = UInt32.ofNat (x.toUInt32.toNat / 256) := UInt32.toNat_inj.mp (by
    rw [UInt32.toNat_shiftRight, UInt32.toNat_ofNat', Nat.shiftRight_eq_div_pow]
    have := UInt32.toNat_lt x.toUInt32
    rw [Nat.mod_eq_of_lt (a := x.toUInt32.toNat / 256) (by omega)]
    rfl)
  rw [h]
  rfl
theorem c_draw {X : Nat × (Nat → Int32)} {d : Nat} {I : Nat → Nat → Int32} {J : Nat → Nat → Int64} {m : Nat} (hd : 1 ≤ d) (hm : 2 ≤ m) (hm2 : m < 100) : callF X d 107 [.ref 1, .int (nI m)] (mk I J) = some (some (.int (nI ((nI 1664525 * I 1 0 + nI 1013904223).toUInt32.toNat / 256 % m))), mk (va_up I 1 (va_up (I 1) 0 (nI 1664525 * I 1 0 + nI 1013904223))) J) := by
  refine callF_at (by omega) (by decide) (Nat.le_of_ble_eq_true rfl) (fun d _ => ?_)
  show Ev X d 107 0 [.ref 1, .int (nI m)] [] ( mk I J) _
  obtain ⟨x, ex⟩ : ∃ x, x = nI 1664525 * I 1 0 + nI 1013904223 := ⟨_, rfl⟩
  rw [← ex]
  have xl := UInt32.toNat_lt x.toUInt32
  have m0 : ¬ nI m = 0 := fun z => by rw [q_eq0 (by omega)] at z; omega
  have m1 : nI 1 ≤ nI m := by rw [nI_leI (by omega) (by omega)]; omega
  have er := n_rem (a := x.toUInt32.toNat / 256) (m := m) (by omega) (by omega) (by omega)
  simp (disch := first | omega | assumption | exact rfl) only [U_107_0, U_107_2, U_107_3, XX, QQ, WW, KK, QX, SHs, RRs, Nat.reduceAdd, Nat.reduceMul, Nat.reduceLeDiff, Nat.reduceEqDiff, List.length_cons, List.length_nil, decide_true, decide_false, Bool.true_and, Bool.and_true, Bool.false_and, Bool.and_false, false_and, and_false, Bool.false_eq_true, Bool.true_eq_false, reduceCtorEq, eq_self, if_true, if_false, true_and, and_true, not_true_eq_false, not_false_eq_true, if_pos, if_neg, z_ite_not, false_or, or_false, true_or, or_true, SWs, swk_0, swk_1, ← ex, u8, er, m0]
theorem r_draw {X : Nat × (Nat → Int32)} {d : Nat} {I : Nat → Nat → Int32} {J : Nat → Nat → Int64} {m : Nat} (hd : 1 ≤ d) (hm : 2 ≤ m) (hm2 : m < 100) : callF X d 158 [.ref 177, .int (nI m)] (mk I J) = some (some (.int (nI ((nI 1664525 * I 178 0 + nI 1013904223).toUInt32.toNat / 256 % m))), mk (va_up I 178 (va_up (I 178) 0 (nI 1664525 * I 178 0 + nI 1013904223))) J) := by
  refine callF_at (by omega) (by decide) (Nat.le_of_ble_eq_true rfl) (fun d _ => ?_)
  show Ev X d 158 0 [.ref 177, .int (nI m)] [] ( mk I J) _
  obtain ⟨x, ex⟩ : ∃ x, x = nI 1664525 * I 178 0 + nI 1013904223 := ⟨_, rfl⟩
  rw [← ex]
  have xl := UInt32.toNat_lt x.toUInt32
  have m0 : ¬ nI m = 0 := fun z => by rw [q_eq0 (by omega)] at z; omega
  have er := n_rem (a := x.toUInt32.toNat / 256) (m := m) (by omega) (by omega) (by omega)
  simp (disch := first | omega | assumption | exact rfl) only [U_158_0, XX, QQ, WW, KK, QX, SHs, RRs, Nat.reduceAdd, Nat.reduceMul, Nat.reduceLeDiff, Nat.reduceEqDiff, List.length_cons, List.length_nil, decide_true, decide_false, Bool.true_and, Bool.and_true, Bool.false_and, Bool.and_false, false_and, and_false, Bool.false_eq_true, Bool.true_eq_false, reduceCtorEq, eq_self, if_true, if_false, true_and, and_true, not_true_eq_false, not_false_eq_true, if_pos, if_neg, z_ite_not, false_or, or_false, true_or, or_true, SWs, swk_0, swk_1, ← ex, u8, er, m0]
