/-! ===== a rule's condition: what it comes to ===== -/
def boF (op : Nat) (x y : Int32) : Int32 := if op = 6 then x + y else if op = 7 then x - y else if op = 8 then x * y else if op = 10 then bI (decide (x < y)) else if op = 11 then bI (decide (x = y)) else if op = 12 then bI (decide (y < x)) else if op = 14 then x &&& y else x ||| y
def evS (vs : Nat → Int32) (q : Nat × Nat) (S : List Int32) : List Int32 :=
  if q.1 = 0 then nI q.2 :: S else if q.1 < 6 then vs q.1 :: S
  else match S with
    | [] => []
    | y :: S1 => if q.1 = 9 then (y / nI q.2) :: S1 else if q.1 = 13 then (nI 1 - y) :: S1 else match S1 with
      | [] => []
      | x :: S2 => boF q.1 x y :: S2
def evL (vs : Nat → Int32) : List (Nat × Nat) → List Int32 → List Int32
  | [], S => S
  | q :: l, S => evL vs l (evS vs q S)
/-- the stack S lies in f, its bottom at 0 -/
def stk (f : Nat → Int32) (S : List Int32) : Prop := ∀ i, i < S.length → f i = S.getD (S.length - 1 - i) 0
theorem stk_push {f : Nat → Int32} {S : List Int32} {x : Int32} (h : stk f S) : stk (va_up f S.length x) (x :: S) := fun i hi => by
  rw [List.length_cons] at hi ⊢
  by_cases z : i = S.length
  · subst z; rw [vu_eq, show S.length + 1 - 1 - S.length = 0 by omega]; rfl
  · rw [vu_ne z, h i (by omega), show S.length + 1 - 1 - i = (S.length - 1 - i) + 1 by omega, List.getD_cons_succ]
theorem stk_top {f : Nat → Int32} {S : List Int32} {x : Int32} (h : stk f (x :: S)) : f S.length = x ∧ stk f S := by
  refine ⟨?_, fun i hi => ?_⟩
  · have := h S.length (by rw [List.length_cons]; omega)
    rw [List.length_cons, show S.length + 1 - 1 - S.length = 0 by omega] at this; exact this
  · have := h i (by rw [List.length_cons]; omega)
    rw [List.length_cons, show S.length + 1 - 1 - i = (S.length - 1 - i) + 1 by omega, List.getD_cons_succ] at this
    exact this
def RLA (R : Nat) : Prop := SH R = (6, 10) ∧ RR R 6 = some (R + 5) ∧ RR R 7 = some (R + 6) ∧ RR R 8 = some (R + 7) ∧ SH (R + 5) = (20, 400) ∧ SH (R + 6) = (20, 5) ∧ SH (R + 7) = (20, 32) ∧ RR R 1 = some (R + 1) ∧ RR R 2 = some (R + 2) ∧ RR R 3 = some (R + 3) ∧ RR R 4 = some (R + 4) ∧ SH (R + 1) = (20, 16) ∧ SH (R + 2) = (20, 16) ∧ SH (R + 3) = (20, 16) ∧ SH (R + 4) = (20, 16)
theorem RLA_k {k : Nat} (hk : k < 3) : RLA (38 + 8 * k) := by
  have : ∀ k, k < 3 → RLA (38 + 8 * k) := by unfold RLA; decide +kernel
  exact this k hk
/-- the memory with stack cell f and height n -/
def pS (I : Nat → Nat → Int32) (R : Nat) (f : Nat → Int32) (n : Nat) : Nat → Nat → Int32 := va_up (va_up I (R + 7) f) R (va_up (I R) 9 (nI n))
section RUL
variable {X : Nat × (Nat → Int32)} {d : Nat} {I : Nat → Nat → Int32} {J : Nat → Nat → Int64} {R n : Nat} {f : Nat → Int32}
theorem pS_9 : pS I R f n R 9 = nI n := by unfold pS; rw [vu_eq, vu_eq]
theorem pS_7 : pS I R f n (R + 7) = f := by unfold pS; rw [vu_ne (by omega), vu_eq]
theorem pS_fr {a : Nat} (h : a ≠ R) (h2 : a ≠ R + 7) : pS I R f n a = I a := by unfold pS; rw [vu_ne h, vu_ne h2]
theorem pS_p {g : Nat → Int32} {m : Nat} : va_up (va_up (pS I R f n) (R + 7) g) R (va_up (pS I R f n R) 9 (nI m)) = pS I R g m := by
  funext a
  unfold pS
  by_cases h : a = R
  · subst h; rw [vu_eq, vu_eq, vu_eq, vu_vu]
  · rw [vu_ne h, vu_ne h]
    by_cases h2 : a = R + 7
    · rw [h2, vu_eq, vu_eq]
    · rw [vu_ne h2, vu_ne h2, vu_ne h, vu_ne h2]
theorem pS_q {m : Nat} : va_up (pS I R f n) R (va_up (pS I R f n R) 9 (nI m)) = pS I R f m := by
  unfold pS
  rw [vu_eq, vu_vu, vu_vu]
theorem c_push {x : Int32} (hd : 1 ≤ d) (hR : RLA R) (hn : n < 32) : callF X d 75 [.ref R, .int x] (mk (pS I R f n) J) = some (none, mk (pS I R (va_up f n x) (n + 1)) J) := by
  obtain ⟨r1, r2, r3, r4, r5, r6, r7, _⟩ := hR
  have e9 := pS_9 (I := I) (R := R) (f := f) (n := n)
  have e7 := pS_7 (I := I) (R := R) (f := f) (n := n)
  have ne : R ≠ R + 7 := by omega
  have ep := pS_p (I := I) (R := R) (f := f) (n := n) (g := va_up f n x) (m := n + 1)
  obtain ⟨P, eP⟩ : ∃ P, P = pS I R f n := ⟨_, rfl⟩
  rw [← eP] at e9 e7 ep
  rw [← eP]
  refine callF_at (by omega) (by decide) (Nat.le_of_ble_eq_true rfl) (fun d _ => ?_)
  show Ev X d 75 0 [.ref R, .int x] [] ( mk P J) _
  have e9' : va_up P (R + 7) (va_up f n x) R = P R := vu_ne ne
  simp (disch := first | omega | assumption | exact rfl) only [U_75_0, U_75_1, U_75_2, XX, QQ, WW, KK, QX, SHs, RRs, Nat.reduceAdd, Nat.reduceMul, Nat.reduceLeDiff, Nat.reduceEqDiff, List.length_cons, List.length_nil, decide_true, decide_false, Bool.true_and, Bool.and_true, Bool.false_and, Bool.and_false, false_and, and_false, Bool.false_eq_true, Bool.true_eq_false, reduceCtorEq, eq_self, if_true, if_false, true_and, and_true, not_true_eq_false, not_false_eq_true, if_pos, if_neg, z_ite_not, false_or, or_false, true_or, or_true, SWs, swk_0, swk_1, r1, r4, r7, e9, e7, e9', ep]
theorem c_pop (hd : 1 ≤ d) (hR : RLA R) (hn : n + 1 ≤ 32) : callF X d 76 [.ref R] (mk (pS I R f (n + 1)) J) = some (some (.int (f n)), mk (pS I R f n) J) := by
  obtain ⟨r1, r2, r3, r4, r5, r6, r7, _⟩ := hR
  have e9 := pS_9 (I := I) (R := R) (f := f) (n := n + 1)
  have e7 := pS_7 (I := I) (R := R) (f := f) (n := n + 1)
  have f7 := pS_7 (I := I) (R := R) (f := f) (n := n)
  have f9 := pS_9 (I := I) (R := R) (f := f) (n := n)
  have ep := pS_q (I := I) (R := R) (f := f) (n := n + 1) (m := n)
  obtain ⟨P, eP⟩ : ∃ P, P = pS I R f (n + 1) := ⟨_, rfl⟩
  obtain ⟨Q, eQ⟩ : ∃ Q, Q = pS I R f n := ⟨_, rfl⟩
  rw [← eP] at e9 e7 ep
  rw [← eQ] at f7 f9 ep
  rw [← eP, ← eQ]
  refine callF_at (by omega) (by decide) (Nat.le_of_ble_eq_true rfl) (fun d _ => ?_)
  show Ev X d 76 0 [.ref R] [] ( mk P J) _
  simp (disch := first | omega | assumption | exact rfl) only [U_76_0, U_76_2, XX, QQ, WW, KK, QX, SHs, RRs, Nat.reduceAdd, Nat.reduceMul, Nat.reduceLeDiff, Nat.reduceEqDiff, List.length_cons, List.length_nil, decide_true, decide_false, Bool.true_and, Bool.and_true, Bool.false_and, Bool.and_false, false_and, and_false, Bool.false_eq_true, Bool.true_eq_false, reduceCtorEq, eq_self, if_true, if_false, true_and, and_true, not_true_eq_false, not_false_eq_true, if_pos, if_neg, z_ite_not, false_or, or_false, true_or, or_true, SWs, swk_0, swk_1, r1, r4, r7, e9, e7, Nat.add_sub_cancel, ep, f7, f9]
theorem c_join {op : Nat} {x y : Int32} (hd : 1 ≤ d) (M : Mem) (h : op = 6 ∨ op = 7 ∨ op = 8 ∨ op = 10 ∨ op = 11 ∨ op = 12 ∨ op = 14 ∨ op = 15) : callF X d 77 [.int (nI (opC op)), .int x, .int y] M = some (some (.int (boF op x y)), M) := by
  rcases h with rfl | rfl | rfl | rfl | rfl | rfl | rfl | rfl
  · refine callF_at (by omega) (by decide) (Nat.le_of_ble_eq_true rfl) (fun d _ => ?_)
    show Ev X d 77 0 [.int (nI 43), .int x, .int y] [] M (some (.int (x + y)), M)
    simp (disch := first | omega | assumption | exact rfl) only [U_77_0, U_77_1, XX, QQ, WW, KK, QX, SHs, RRs, Nat.reduceAdd, Nat.reduceMul, Nat.reduceLeDiff, Nat.reduceEqDiff, List.length_cons, List.length_nil, decide_true, decide_false, Bool.true_and, Bool.and_true, Bool.false_and, Bool.and_false, false_and, and_false, Bool.false_eq_true, Bool.true_eq_false, reduceCtorEq, eq_self, if_true, if_false, true_and, and_true, not_true_eq_false, not_false_eq_true, if_pos, if_neg, z_ite_not, false_or, or_false, true_or, or_true, SWs, swk_0, swk_1, sw1, swk]
  · refine callF_at (by omega) (by decide) (Nat.le_of_ble_eq_true rfl) (fun d _ => ?_)
    show Ev X d 77 0 [.int (nI 45), .int x, .int y] [] M (some (.int (x - y)), M)
    simp (disch := first | omega | assumption | exact rfl) only [U_77_0, U_77_2, XX, QQ, WW, KK, QX, SHs, RRs, Nat.reduceAdd, Nat.reduceMul, Nat.reduceLeDiff, Nat.reduceEqDiff, List.length_cons, List.length_nil, decide_true, decide_false, Bool.true_and, Bool.and_true, Bool.false_and, Bool.and_false, false_and, and_false, Bool.false_eq_true, Bool.true_eq_false, reduceCtorEq, eq_self, if_true, if_false, true_and, and_true, not_true_eq_false, not_false_eq_true, if_pos, if_neg, z_ite_not, false_or, or_false, true_or, or_true, SWs, swk_0, swk_1, sw1, swk]
  · refine callF_at (by omega) (by decide) (Nat.le_of_ble_eq_true rfl) (fun d _ => ?_)
    show Ev X d 77 0 [.int (nI 42), .int x, .int y] [] M (some (.int (x * y)), M)
    simp (disch := first | omega | assumption | exact rfl) only [U_77_0, U_77_3, XX, QQ, WW, KK, QX, SHs, RRs, Nat.reduceAdd, Nat.reduceMul, Nat.reduceLeDiff, Nat.reduceEqDiff, List.length_cons, List.length_nil, decide_true, decide_false, Bool.true_and, Bool.and_true, Bool.false_and, Bool.and_false, false_and, and_false, Bool.false_eq_true, Bool.true_eq_false, reduceCtorEq, eq_self, if_true, if_false, true_and, and_true, not_true_eq_false, not_false_eq_true, if_pos, if_neg, z_ite_not, false_or, or_false, true_or, or_true, SWs, swk_0, swk_1, sw1, swk]
  · refine callF_at (by omega) (by decide) (Nat.le_of_ble_eq_true rfl) (fun d _ => ?_)
    show Ev X d 77 0 [.int (nI 60), .int x, .int y] [] M (some (.int (bI (decide (x < y)))), M)
    by_cases z : x < y
    · have z2 := (fa_of_lt z).2.1
      simp (disch := first | omega | assumption | exact rfl) only [U_77_0, U_77_8, U_77_9, U_77_10, U_77_11, XX, QQ, WW, KK, QX, SHs, RRs, Nat.reduceAdd, Nat.reduceMul, Nat.reduceLeDiff, Nat.reduceEqDiff, List.length_cons, List.length_nil, decide_true, decide_false, Bool.true_and, Bool.and_true, Bool.false_and, Bool.and_false, false_and, and_false, Bool.false_eq_true, Bool.true_eq_false, reduceCtorEq, eq_self, if_true, if_false, true_and, and_true, not_true_eq_false, not_false_eq_true, if_pos, if_neg, z_ite_not, false_or, or_false, true_or, or_true, SWs, swk_0, swk_1, sw1, swk, z, z2]
    · have z2 : y ≤ x := Int32.not_lt.mp z
      simp (disch := first | omega | assumption | exact rfl) only [U_77_0, U_77_8, U_77_9, U_77_10, U_77_11, XX, QQ, WW, KK, QX, SHs, RRs, Nat.reduceAdd, Nat.reduceMul, Nat.reduceLeDiff, Nat.reduceEqDiff, List.length_cons, List.length_nil, decide_true, decide_false, Bool.true_and, Bool.and_true, Bool.false_and, Bool.and_false, false_and, and_false, Bool.false_eq_true, Bool.true_eq_false, reduceCtorEq, eq_self, if_true, if_false, true_and, and_true, not_true_eq_false, not_false_eq_true, if_pos, if_neg, z_ite_not, false_or, or_false, true_or, or_true, SWs, swk_0, swk_1, sw1, swk, z, z2]
  · refine callF_at (by omega) (by decide) (Nat.le_of_ble_eq_true rfl) (fun d _ => ?_)
    show Ev X d 77 0 [.int (nI 61), .int x, .int y] [] M (some (.int (bI (decide (x = y)))), M)
    by_cases z : x = y
    · simp (disch := first | omega | assumption | exact rfl) only [U_77_0, U_77_12, U_77_13, U_77_14, U_77_15, XX, QQ, WW, KK, QX, SHs, RRs, Nat.reduceAdd, Nat.reduceMul, Nat.reduceLeDiff, Nat.reduceEqDiff, List.length_cons, List.length_nil, decide_true, decide_false, Bool.true_and, Bool.and_true, Bool.false_and, Bool.and_false, false_and, and_false, Bool.false_eq_true, Bool.true_eq_false, reduceCtorEq, eq_self, if_true, if_false, true_and, and_true, not_true_eq_false, not_false_eq_true, if_pos, if_neg, z_ite_not, false_or, or_false, true_or, or_true, SWs, swk_0, swk_1, sw1, swk, z]
    · simp (disch := first | omega | assumption | exact rfl) only [U_77_0, U_77_12, U_77_13, U_77_14, U_77_15, XX, QQ, WW, KK, QX, SHs, RRs, Nat.reduceAdd, Nat.reduceMul, Nat.reduceLeDiff, Nat.reduceEqDiff, List.length_cons, List.length_nil, decide_true, decide_false, Bool.true_and, Bool.and_true, Bool.false_and, Bool.and_false, false_and, and_false, Bool.false_eq_true, Bool.true_eq_false, reduceCtorEq, eq_self, if_true, if_false, true_and, and_true, not_true_eq_false, not_false_eq_true, if_pos, if_neg, z_ite_not, false_or, or_false, true_or, or_true, SWs, swk_0, swk_1, sw1, swk, z]
  · refine callF_at (by omega) (by decide) (Nat.le_of_ble_eq_true rfl) (fun d _ => ?_)
    show Ev X d 77 0 [.int (nI 62), .int x, .int y] [] M (some (.int (bI (decide (y < x)))), M)
    by_cases z : y < x
    · have z2 := (fa_of_lt z).2.1
      simp (disch := first | omega | assumption | exact rfl) only [U_77_0, U_77_16, U_77_17, U_77_18, U_77_19, XX, QQ, WW, KK, QX, SHs, RRs, Nat.reduceAdd, Nat.reduceMul, Nat.reduceLeDiff, Nat.reduceEqDiff, List.length_cons, List.length_nil, decide_true, decide_false, Bool.true_and, Bool.and_true, Bool.false_and, Bool.and_false, false_and, and_false, Bool.false_eq_true, Bool.true_eq_false, reduceCtorEq, eq_self, if_true, if_false, true_and, and_true, not_true_eq_false, not_false_eq_true, if_pos, if_neg, z_ite_not, false_or, or_false, true_or, or_true, SWs, swk_0, swk_1, sw1, swk, z, z2]
    · have z2 : x ≤ y := Int32.not_lt.mp z
      simp (disch := first | omega | assumption | exact rfl) only [U_77_0, U_77_16, U_77_17, U_77_18, U_77_19, XX, QQ, WW, KK, QX, SHs, RRs, Nat.reduceAdd, Nat.reduceMul, Nat.reduceLeDiff, Nat.reduceEqDiff, List.length_cons, List.length_nil, decide_true, decide_false, Bool.true_and, Bool.and_true, Bool.false_and, Bool.and_false, false_and, and_false, Bool.false_eq_true, Bool.true_eq_false, reduceCtorEq, eq_self, if_true, if_false, true_and, and_true, not_true_eq_false, not_false_eq_true, if_pos, if_neg, z_ite_not, false_or, or_false, true_or, or_true, SWs, swk_0, swk_1, sw1, swk, z, z2]
  · refine callF_at (by omega) (by decide) (Nat.le_of_ble_eq_true rfl) (fun d _ => ?_)
    show Ev X d 77 0 [.int (nI 269), .int x, .int y] [] M (some (.int (x &&& y)), M)
    simp (disch := first | omega | assumption | exact rfl) only [U_77_0, U_77_20, XX, QQ, WW, KK, QX, SHs, RRs, Nat.reduceAdd, Nat.reduceMul, Nat.reduceLeDiff, Nat.reduceEqDiff, List.length_cons, List.length_nil, decide_true, decide_false, Bool.true_and, Bool.and_true, Bool.false_and, Bool.and_false, false_and, and_false, Bool.false_eq_true, Bool.true_eq_false, reduceCtorEq, eq_self, if_true, if_false, true_and, and_true, not_true_eq_false, not_false_eq_true, if_pos, if_neg, z_ite_not, false_or, or_false, true_or, or_true, SWs, swk_0, swk_1, sw1, swk]
  · refine callF_at (by omega) (by decide) (Nat.le_of_ble_eq_true rfl) (fun d _ => ?_)
    show Ev X d 77 0 [.int (nI 268), .int x, .int y] [] M (some (.int (x ||| y)), M)
    simp (disch := first | omega | assumption | exact rfl) only [U_77_0, U_77_21, XX, QQ, WW, KK, QX, SHs, RRs, Nat.reduceAdd, Nat.reduceMul, Nat.reduceLeDiff, Nat.reduceEqDiff, List.length_cons, List.length_nil, decide_true, decide_false, Bool.true_and, Bool.and_true, Bool.false_and, Bool.and_false, false_and, and_false, Bool.false_eq_true, Bool.true_eq_false, reduceCtorEq, eq_self, if_true, if_false, true_and, and_true, not_true_eq_false, not_false_eq_true, if_pos, if_neg, z_ite_not, false_or, or_false, true_or, or_true, SWs, swk_0, swk_1, sw1, swk]
theorem c_joinD {x : Int32} {m : Nat} (hd : 1 ≤ d) (M : Mem) (h : 0 < m) (h2 : m ≤ 9999) : callF X d 77 [.int (nI 47), .int x, .int (nI m)] M = some (some (.int (x / nI m)), M) := by
  refine callF_at (by omega) (by decide) (Nat.le_of_ble_eq_true rfl) (fun d _ => ?_)
  show Ev X d 77 0 [.int (nI 47), .int x, .int (nI m)] [] M (some (.int (x / nI m)), M)
  have z : ¬ nI m = 0 := fun z => by rw [q_eq0 (by omega)] at z; omega
  simp (disch := first | omega | assumption | exact rfl) only [U_77_0, U_77_4, U_77_6, U_77_7, XX, QQ, WW, KK, QX, SHs, RRs, Nat.reduceAdd, Nat.reduceMul, Nat.reduceLeDiff, Nat.reduceEqDiff, List.length_cons, List.length_nil, decide_true, decide_false, Bool.true_and, Bool.and_true, Bool.false_and, Bool.and_false, false_and, and_false, Bool.false_eq_true, Bool.true_eq_false, reduceCtorEq, eq_self, if_true, if_false, true_and, and_true, not_true_eq_false, not_false_eq_true, if_pos, if_neg, z_ite_not, false_or, or_false, true_or, or_true, SWs, swk_0, swk_1, sw1, swk, z]
end RUL
