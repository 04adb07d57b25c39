/-! ===== a form while it is read: the class's word, the reference's grid ===== -/
def stF (F p : Nat) (b : Bool) : Nat := bsB (fun i => if i = p then b else F.testBit i) 64
theorem stF_lt {F p : Nat} {b : Bool} : stF F p b < 2 ^ 64 := bsB_lt _ 64
theorem stF_tb {F p k : Nat} {b : Bool} : (stF F p b).testBit k = (decide (k < 64) && if k = p then b else F.testBit k) := bsB_tb _ 64 k
theorem stF_or {F p : Nat} (hF : F < 2 ^ 64) (hp : p < 64) : F ||| 2 ^ p = stF F p true := by
  refine Nat.eq_of_testBit_eq (fun k => ?_)
  rw [stF_tb, Nat.testBit_or, Nat.testBit_two_pow]
  by_cases z : k = p
  · subst z; simp [hp]
  · have z' : ¬ p = k := fun e => z e.symm
    cases h : F.testBit k with
    | false => simp [z, z']
    | true => simp [z, z', tb_lt hF h]
theorem stF_cl {F p : Nat} (hF : F < 2 ^ 64) (hp : p < 64) : lN F &&& (lN (2 ^ p) ^^^ -lN 1) = lN (stF F p false) := by
  rw [show -lN 1 = (-1 : Int64) by decide]
  apply wb_inj
  rw [Int64.toBitVec_and, Int64.toBitVec_xor, wb_tb, wb_tb, wb_tb, show (-1 : Int64).toBitVec = BitVec.allOnes 64 by decide]
  apply BitVec.eq_of_getLsbD_eq
  intro i hi
  rw [BitVec.getLsbD_and, BitVec.getLsbD_xor, BitVec.getLsbD_ofNat, BitVec.getLsbD_ofNat, BitVec.getLsbD_ofNat, stF_tb, Nat.testBit_two_pow, BitVec.getLsbD_allOnes]
  by_cases z : i = p
  · subst z; simp [hi]
  · have z' : ¬ p = i := fun e => z e.symm
    simp [hi, z, z']
def stpF (k : Nat) : Nat := if k = 257 then 1 else 8
def shFm (k pos F : Nat) : Nat → Nat
  | 0 => F
  | i + 1 => stF (shFm k pos F i) (pos + i * stpF k) (decide (k ≠ 259))
theorem shFm_lt {k pos F : Nat} (hF : F < 2 ^ 64) : ∀ i, shFm k pos F i < 2 ^ 64
  | 0 => hF
  | i + 1 => stF_lt
theorem vuJ_id {J : Nat → Nat → Int64} {a k : Nat} {v : Int64} (h : J a k = v) : va_up J a (va_up (J a) k v) = J := by
  funext x y
  by_cases z : x = a
  · subst z
    rw [vu_eq]
    by_cases z2 : y = k
    · subst z2; rw [vu_eq, h]
    · rw [vu_ne z2]
  · rw [vu_ne z]
theorem c_57 {X : Nat × (Nat → Int32)} {d : Nat} {I : Nat → Nat → Int32} {J : Nat → Nat → Int64} {k pos n F : Nat} (hd : 1 ≤ d) (hk : k < 276) (hn : n ≤ 8) (hp : ∀ i, i < n → pos + i * stpF k < 64) (hF : F < 2 ^ 64) (hJ : J 124 3 = lN F) : callF X d 57 [.ref 124, .int (nI k), .int (nI pos), .int (nI n)] (mk I J) = some (none, mk I (va_up J 124 (va_up (J 124) 3 (lN (shFm k pos F n))))) := by
  refine callF_at (by omega) (by decide) (Nat.le_of_ble_eq_true rfl) (fun d _ => ?_)
  show Ev X d 57 0 [.ref 124, .int (nI k), .int (nI pos), .int (nI n), .retAddr 0, .retAddr 0, .retAddr 0, .retAddr 0] [] ( mk I J) _
  have lp : ∀ i, i ≤ n → ∀ u6 : Value, Ev X d 57 4 [.ref 124, .int (nI k), .int (nI pos), .int (nI n), .int (nI (stpF k)), .int (nI i), u6, .retAddr 0] [] (mk I (va_up J 124 (va_up (J 124) 3 (lN (shFm k pos F i))))) (none, mk I (va_up J 124 (va_up (J 124) 3 (lN (shFm k pos F n))))) := by
    refine lpd (n := n) (fun u6 => ?_) (fun i hi ih u6 => ?_)
    · simp (disch := first | omega | assumption | exact rfl) only [U_57_4, U_57_9, XX, QQ, WW, KK, QX, SHs, RRs, Nat.reduceAdd, Nat.reduceMul, Nat.reduceLeDiff, Nat.reduceEqDiff, List.length_cons, List.length_nil, decide_true, decide_false, Bool.true_and, Bool.and_true, Bool.false_and, Bool.and_false, false_and, and_false, Bool.false_eq_true, Bool.true_eq_false, reduceCtorEq, eq_self, if_true, if_false, true_and, and_true, not_true_eq_false, not_false_eq_true, if_pos, if_neg, z_ite_not, false_or, or_false, true_or, or_true, SWs, swk_0, swk_1]
    · have pi := hp i hi
      have sl := shFm_lt (k := k) (pos := pos) hF i
      have st8 : stpF k ≤ 8 := by unfold stpF; split <;> omega
      have p2 : (2 : Nat) ^ (pos + i * stpF k) < 2 ^ 64 := Nat.pow_lt_pow_right (by decide) pi
      have st := ih (.long (lN (2 ^ (pos + i * stpF k))))
      rw [U_57_4]
      by_cases z : k = 259
      · subst z
        have e := stF_cl sl pi
        have s1 := wb_shl 1 pi
        rw [Nat.one_mul] at s1
        rw [shFm, show decide (259 ≠ 259) = false by decide] at st
        simp (disch := first | omega | assumption | exact rfl) only [U_57_5, U_57_6, U_57_8, XX, QQ, WW, KK, QX, SHs, RRs, Nat.reduceAdd, Nat.reduceMul, Nat.reduceLeDiff, Nat.reduceEqDiff, List.length_cons, List.length_nil, decide_true, decide_false, Bool.true_and, Bool.and_true, Bool.false_and, Bool.and_false, false_and, and_false, Bool.false_eq_true, Bool.true_eq_false, reduceCtorEq, eq_self, if_true, if_false, true_and, and_true, not_true_eq_false, not_false_eq_true, if_pos, if_neg, z_ite_not, false_or, or_false, true_or, or_true, SWs, swk_0, swk_1, s1, e]
        exact st
      · have e := stF_or sl pi
        rw [shFm, show decide (k ≠ 259) = true by simp [z]] at st
        simp (disch := first | omega | assumption | exact rfl) only [U_57_5, U_57_7, U_57_8, XX, QQ, WW, KK, QX, SHs, RRs, Nat.reduceAdd, Nat.reduceMul, Nat.reduceLeDiff, Nat.reduceEqDiff, List.length_cons, List.length_nil, decide_true, decide_false, Bool.true_and, Bool.and_true, Bool.false_and, Bool.and_false, false_and, and_false, Bool.false_eq_true, Bool.true_eq_false, reduceCtorEq, eq_self, if_true, if_false, true_and, and_true, not_true_eq_false, not_false_eq_true, if_pos, if_neg, z_ite_not, false_or, or_false, true_or, or_true, SWs, swk_0, swk_1, z, Nat.one_mul, wb_or, e]
        exact st
  have l0 := lp 0 (Nat.zero_le _) (.retAddr 0)
  rw [show shFm k pos F 0 = F from rfl, vuJ_id hJ] at l0
  by_cases z : k = 257
  · rw [show stpF k = 1 by simp [stpF, z]] at l0
    simp (disch := first | omega | assumption | exact rfl) only [U_57_0, U_57_1, U_57_3, XX, QQ, WW, KK, QX, SHs, RRs, Nat.reduceAdd, Nat.reduceMul, Nat.reduceLeDiff, Nat.reduceEqDiff, List.length_cons, List.length_nil, decide_true, decide_false, Bool.true_and, Bool.and_true, Bool.false_and, Bool.and_false, false_and, and_false, Bool.false_eq_true, Bool.true_eq_false, reduceCtorEq, eq_self, if_true, if_false, true_and, and_true, not_true_eq_false, not_false_eq_true, if_pos, if_neg, z_ite_not, false_or, or_false, true_or, or_true, SWs, swk_0, swk_1, z]
    subst z
    exact l0
  · rw [show stpF k = 8 by simp [stpF, z]] at l0
    simp (disch := first | omega | assumption | exact rfl) only [U_57_0, U_57_2, U_57_3, XX, QQ, WW, KK, QX, SHs, RRs, Nat.reduceAdd, Nat.reduceMul, Nat.reduceLeDiff, Nat.reduceEqDiff, List.length_cons, List.length_nil, decide_true, decide_false, Bool.true_and, Bool.and_true, Bool.false_and, Bool.and_false, false_and, and_false, Bool.false_eq_true, Bool.true_eq_false, reduceCtorEq, eq_self, if_true, if_false, true_and, and_true, not_true_eq_false, not_false_eq_true, if_pos, if_neg, z_ite_not, false_or, or_false, true_or, or_true, SWs, swk_0, swk_1, z]
    exact l0
/-- the grid holds the form -/
def GR (I : Nat → Nat → Int32) (F : Nat) : Prop := ∀ q, q < 64 → I 185 q = bI (F.testBit q)
theorem gr_step {I : Nat → Nat → Int32} {F p : Nat} {b : Bool} (h : GR I F) : GR (va_up I 185 (va_up (I 185) p (bI b))) (stF F p b) := by
  intro q hq
  rw [vu_eq, stF_tb, show decide (q < 64) = true from decide_eq_true hq, Bool.true_and]
  by_cases z : q = p
  · subst z; rw [vu_eq, if_pos rfl]
  · rw [vu_ne z, if_neg z]; exact h q hq
theorem r_181 {X : Nat × (Nat → Int32)} {d : Nat} {I : Nat → Nat → Int32} {J : Nat → Nat → Int64} {F : Nat} (hd : 1 ≤ d) (h : GR I F) : callF X d 181 [.ref 177] (mk I J) = some (some (.int (nI (pop F))), mk I J) := by
  refine callF_at (by omega) (by decide) (Nat.le_of_ble_eq_true rfl) (fun d _ => ?_)
  show Ev X d 181 0 [.ref 177, .retAddr 0, .retAddr 0] [] ( mk I J) _
  have lp : ∀ i, i ≤ 64 → Ev X d 181 1 [.ref 177, .int (nI (fb_ct F.testBit i)), .int (nI i)] [] (mk I J) (some (.int (nI (pop F))), mk I J) := by
    refine lpd (n := 64) ?_ (fun i hi ih => ?_)
    · simp (disch := first | omega | assumption | exact rfl) only [U_181_1, U_181_6, XX, QQ, WW, KK, QX, SHs, RRs, Nat.reduceAdd, Nat.reduceMul, Nat.reduceLeDiff, Nat.reduceEqDiff, List.length_cons, List.length_nil, decide_true, decide_false, Bool.true_and, Bool.and_true, Bool.false_and, Bool.and_false, false_and, and_false, Bool.false_eq_true, Bool.true_eq_false, reduceCtorEq, eq_self, if_true, if_false, true_and, and_true, not_true_eq_false, not_false_eq_true, if_pos, if_neg, z_ite_not, false_or, or_false, true_or, or_true, SWs, swk_0, swk_1]
      rfl
    · have g := h i hi
      have b1 := fb_ct_le F.testBit i
      rw [U_181_1]
      rw [fb_ct_succ] at ih
      cases z : F.testBit i with
      | true =>
        rw [z, if_pos rfl] at ih
        rw [z] at g
        simp (disch := first | omega | assumption | exact rfl) only [U_181_2, U_181_3, U_181_5, XX, QQ, WW, KK, QX, SHs, RRs, Nat.reduceAdd, Nat.reduceMul, Nat.reduceLeDiff, Nat.reduceEqDiff, List.length_cons, List.length_nil, decide_true, decide_false, Bool.true_and, Bool.and_true, Bool.false_and, Bool.and_false, false_and, and_false, Bool.false_eq_true, Bool.true_eq_false, reduceCtorEq, eq_self, if_true, if_false, true_and, and_true, not_true_eq_false, not_false_eq_true, if_pos, if_neg, z_ite_not, false_or, or_false, true_or, or_true, SWs, swk_0, swk_1, g]
        exact ih
      | false =>
        rw [z, if_neg (by decide)] at ih
        rw [z] at g
        simp (disch := first | omega | assumption | exact rfl) only [U_181_2, U_181_4, U_181_5, XX, QQ, WW, KK, QX, SHs, RRs, Nat.reduceAdd, Nat.reduceMul, Nat.reduceLeDiff, Nat.reduceEqDiff, List.length_cons, List.length_nil, decide_true, decide_false, Bool.true_and, Bool.and_true, Bool.false_and, Bool.and_false, false_and, and_false, Bool.false_eq_true, Bool.true_eq_false, reduceCtorEq, eq_self, if_true, if_false, true_and, and_true, not_true_eq_false, not_false_eq_true, if_pos, if_neg, z_ite_not, false_or, or_false, true_or, or_true, SWs, swk_0, swk_1, g]
        exact ih
  have l0 := lp 0 (Nat.zero_le _)
  simp (disch := first | omega | assumption | exact rfl) only [U_181_0, XX, QQ, WW, KK, QX, SHs, RRs, Nat.reduceAdd, Nat.reduceMul, Nat.reduceLeDiff, Nat.reduceEqDiff, List.length_cons, List.length_nil, decide_true, decide_false, Bool.true_and, Bool.and_true, Bool.false_and, Bool.and_false, false_and, and_false, Bool.false_eq_true, Bool.true_eq_false, reduceCtorEq, eq_self, if_true, if_false, true_and, and_true, not_true_eq_false, not_false_eq_true, if_pos, if_neg, z_ite_not, false_or, or_false, true_or, or_true, SWs, swk_0, swk_1]
  exact l0
