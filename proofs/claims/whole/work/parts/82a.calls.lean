/-! ===== the law: each call (gen82.py) ===== -/
theorem lwc_0 {X : Nat × (Nat → Int32)} {d i : Nat} {I : Nat → Nat → Int32} {J : Nat → Nat → Int64} (hd : 62 ≤ d) (hi : i + 6 ≤ X.1) (hL : X.1 ≤ 3072) (h : Inv I J) : ∃ I' J', Inv I' J' ∧ ∀ r, Ev X d 269 1 [.float 1000, .ref 0, .ref 177, .int (nI (i + 6))] [] (mk I' J') r → Ev X d 269 3 [.float 1000, .ref 0, .ref 177, .int (nI i)] [] (mk I J) r := by
  have B : Both X d 113 157 [.int (X.2 (i + 1))] I J := b_state (by omega) h
  obtain ⟨v, I1, J1, I2, e1, e2, h'⟩ := B
  refine ⟨I2, J1, h', fun r Hr => ?_⟩
  simp (disch := first | omega | assumption | exact rfl) only [U_269_3, U_269_67, XX, QQ, WW, KK, QX, SHs, RRs, Nat.reduceAdd, Nat.reduceMul, Nat.reduceLeDiff, Nat.reduceEqDiff, List.length_cons, List.length_nil, decide_true, decide_false, Bool.true_and, Bool.and_true, Bool.false_and, Bool.and_false, false_and, and_false, Bool.false_eq_true, Bool.true_eq_false, reduceCtorEq, eq_self, if_true, if_false, true_and, and_true, not_true_eq_false, not_false_eq_true, if_pos, if_neg, z_ite_not, false_or, or_false, true_or, or_true, SWs, swk_0, swk_1, e1, e2]
  exact Hr
theorem lwc_1 {X : Nat × (Nat → Int32)} {d i : Nat} {I : Nat → Nat → Int32} {J : Nat → Nat → Int64} (hd : 62 ≤ d) (hi : i + 6 ≤ X.1) (hL : X.1 ≤ 3072) (h : Inv I J) : ∃ I' J', Inv I' J' ∧ ∀ r, Ev X d 269 1 [.float 1000, .ref 0, .ref 177, .int (nI (i + 6))] [] (mk I' J') r → Ev X d 269 5 [.float 1000, .ref 0, .ref 177, .int (nI i)] [] (mk I J) r := by
  have B : Both X d 114 159 [.int (X.2 (i + 1)), .int (X.2 (i + 2)), .int (X.2 (i + 3)), .int (X.2 (i + 4)), .int (X.2 (i + 5))] I J := b_feed (by omega) h
  obtain ⟨v, I1, J1, I2, e1, e2, h'⟩ := B
  refine ⟨I2, J1, h', fun r Hr => ?_⟩
  simp (disch := first | omega | assumption | exact rfl) only [U_269_5, U_269_67, XX, QQ, WW, KK, QX, SHs, RRs, Nat.reduceAdd, Nat.reduceMul, Nat.reduceLeDiff, Nat.reduceEqDiff, List.length_cons, List.length_nil, decide_true, decide_false, Bool.true_and, Bool.and_true, Bool.false_and, Bool.and_false, false_and, and_false, Bool.false_eq_true, Bool.true_eq_false, reduceCtorEq, eq_self, if_true, if_false, true_and, and_true, not_true_eq_false, not_false_eq_true, if_pos, if_neg, z_ite_not, false_or, or_false, true_or, or_true, SWs, swk_0, swk_1, e1, e2]
  exact Hr
theorem lwc_2 {X : Nat × (Nat → Int32)} {d i : Nat} {I : Nat → Nat → Int32} {J : Nat → Nat → Int64} (hd : 62 ≤ d) (hi : i + 6 ≤ X.1) (hL : X.1 ≤ 3072) (h : Inv I J) : ∃ I' J', Inv I' J' ∧ ∀ r, Ev X d 269 1 [.float 1000, .ref 0, .ref 177, .int (nI (i + 6))] [] (mk I' J') r → Ev X d 269 7 [.float 1000, .ref 0, .ref 177, .int (nI i)] [] (mk I J) r := by
  have B : Both X d 116 160 [.int (X.2 (i + 1))] I J := b_end (by omega) h
  obtain ⟨v, I1, J1, I2, e1, e2, h'⟩ := B
  refine ⟨I2, J1, h', fun r Hr => ?_⟩
  simp (disch := first | omega | assumption | exact rfl) only [U_269_7, U_269_67, XX, QQ, WW, KK, QX, SHs, RRs, Nat.reduceAdd, Nat.reduceMul, Nat.reduceLeDiff, Nat.reduceEqDiff, List.length_cons, List.length_nil, decide_true, decide_false, Bool.true_and, Bool.and_true, Bool.false_and, Bool.and_false, false_and, and_false, Bool.false_eq_true, Bool.true_eq_false, reduceCtorEq, eq_self, if_true, if_false, true_and, and_true, not_true_eq_false, not_false_eq_true, if_pos, if_neg, z_ite_not, false_or, or_false, true_or, or_true, SWs, swk_0, swk_1, e1, e2]
  exact Hr
theorem lwc_3 {X : Nat × (Nat → Int32)} {d i : Nat} {I : Nat → Nat → Int32} {J : Nat → Nat → Int64} (hd : 62 ≤ d) (hi : i + 6 ≤ X.1) (hL : X.1 ≤ 3072) (h : Inv I J) : ∃ I' J', Inv I' J' ∧ ∀ r, Ev X d 269 1 [.float 1000, .ref 0, .ref 177, .int (nI (i + 6))] [] (mk I' J') r → Ev X d 269 9 [.float 1000, .ref 0, .ref 177, .int (nI i)] [] (mk I J) r := by
  have B : Both X d 117 183 [.int (X.2 (i + 1))] I J := b_text (by omega) h
  obtain ⟨v, I1, J1, I2, e1, e2, h'⟩ := B
  refine ⟨I2, J1, h', fun r Hr => ?_⟩
  simp (disch := first | omega | assumption | exact rfl) only [U_269_9, U_269_67, XX, QQ, WW, KK, QX, SHs, RRs, Nat.reduceAdd, Nat.reduceMul, Nat.reduceLeDiff, Nat.reduceEqDiff, List.length_cons, List.length_nil, decide_true, decide_false, Bool.true_and, Bool.and_true, Bool.false_and, Bool.and_false, false_and, and_false, Bool.false_eq_true, Bool.true_eq_false, reduceCtorEq, eq_self, if_true, if_false, true_and, and_true, not_true_eq_false, not_false_eq_true, if_pos, if_neg, z_ite_not, false_or, or_false, true_or, or_true, SWs, swk_0, swk_1, e1, e2]
  exact Hr
theorem lwc_4 {X : Nat × (Nat → Int32)} {d i : Nat} {I : Nat → Nat → Int32} {J : Nat → Nat → Int64} (hd : 62 ≤ d) (hi : i + 6 ≤ X.1) (hL : X.1 ≤ 3072) (h : Inv I J) : ∃ I' J', Inv I' J' ∧ ∀ r, Ev X d 269 1 [.float 1000, .ref 0, .ref 177, .int (nI (i + 6))] [] (mk I' J') r → Ev X d 269 11 [.float 1000, .ref 0, .ref 177, .int (nI i)] [] (mk I J) r := by
  have B : Both X d 118 186 [.int (X.2 (i + 1))] I J := b_fault (by omega) h
  obtain ⟨v, I1, J1, I2, e1, e2, h'⟩ := B
  refine ⟨I2, J1, h', fun r Hr => ?_⟩
  simp (disch := first | omega | assumption | exact rfl) only [U_269_11, U_269_67, XX, QQ, WW, KK, QX, SHs, RRs, Nat.reduceAdd, Nat.reduceMul, Nat.reduceLeDiff, Nat.reduceEqDiff, List.length_cons, List.length_nil, decide_true, decide_false, Bool.true_and, Bool.and_true, Bool.false_and, Bool.and_false, false_and, and_false, Bool.false_eq_true, Bool.true_eq_false, reduceCtorEq, eq_self, if_true, if_false, true_and, and_true, not_true_eq_false, not_false_eq_true, if_pos, if_neg, z_ite_not, false_or, or_false, true_or, or_true, SWs, swk_0, swk_1, e1, e2]
  exact Hr
theorem lwc_5 {X : Nat × (Nat → Int32)} {d i : Nat} {I : Nat → Nat → Int32} {J : Nat → Nat → Int64} (hd : 62 ≤ d) (hi : i + 6 ≤ X.1) (hL : X.1 ≤ 3072) (h : Inv I J) : ∃ I' J', Inv I' J' ∧ ∀ r, Ev X d 269 1 [.float 1000, .ref 0, .ref 177, .int (nI (i + 6))] [] (mk I' J') r → Ev X d 269 13 [.float 1000, .ref 0, .ref 177, .int (nI i)] [] (mk I J) r := by
  have B : Both X d 119 196 [.int (X.2 (i + 1)), .int (X.2 (i + 2)), .int (X.2 (i + 3))] I J := b_cell (by omega) h
  obtain ⟨v, I1, J1, I2, e1, e2, h'⟩ := B
  refine ⟨I2, J1, h', fun r Hr => ?_⟩
  simp (disch := first | omega | assumption | exact rfl) only [U_269_13, U_269_67, XX, QQ, WW, KK, QX, SHs, RRs, Nat.reduceAdd, Nat.reduceMul, Nat.reduceLeDiff, Nat.reduceEqDiff, List.length_cons, List.length_nil, decide_true, decide_false, Bool.true_and, Bool.and_true, Bool.false_and, Bool.and_false, false_and, and_false, Bool.false_eq_true, Bool.true_eq_false, reduceCtorEq, eq_self, if_true, if_false, true_and, and_true, not_true_eq_false, not_false_eq_true, if_pos, if_neg, z_ite_not, false_or, or_false, true_or, or_true, SWs, swk_0, swk_1, e1, e2]
  exact Hr
theorem lwc_6 {X : Nat × (Nat → Int32)} {d i : Nat} {I : Nat → Nat → Int32} {J : Nat → Nat → Int64} (hd : 62 ≤ d) (hi : i + 6 ≤ X.1) (hL : X.1 ≤ 3072) (h : Inv I J) : ∃ I' J', Inv I' J' ∧ ∀ r, Ev X d 269 1 [.float 1000, .ref 0, .ref 177, .int (nI (i + 6))] [] (mk I' J') r → Ev X d 269 15 [.float 1000, .ref 0, .ref 177, .int (nI i)] [] (mk I J) r := by
  have B : Both X d 120 197 [.int (X.2 (i + 1)), .int (X.2 (i + 2))] I J := b_set (by omega) h
  obtain ⟨v, I1, J1, I2, e1, e2, h'⟩ := B
  refine ⟨I2, J1, h', fun r Hr => ?_⟩
  simp (disch := first | omega | assumption | exact rfl) only [U_269_15, U_269_67, XX, QQ, WW, KK, QX, SHs, RRs, Nat.reduceAdd, Nat.reduceMul, Nat.reduceLeDiff, Nat.reduceEqDiff, List.length_cons, List.length_nil, decide_true, decide_false, Bool.true_and, Bool.and_true, Bool.false_and, Bool.and_false, false_and, and_false, Bool.false_eq_true, Bool.true_eq_false, reduceCtorEq, eq_self, if_true, if_false, true_and, and_true, not_true_eq_false, not_false_eq_true, if_pos, if_neg, z_ite_not, false_or, or_false, true_or, or_true, SWs, swk_0, swk_1, e1, e2]
  exact Hr
theorem lwc_7 {X : Nat × (Nat → Int32)} {d i : Nat} {I : Nat → Nat → Int32} {J : Nat → Nat → Int64} (hd : 62 ≤ d) (hi : i + 6 ≤ X.1) (hL : X.1 ≤ 3072) (h : Inv I J) : ∃ I' J', Inv I' J' ∧ ∀ r, Ev X d 269 1 [.float 1000, .ref 0, .ref 177, .int (nI (i + 6))] [] (mk I' J') r → Ev X d 269 17 [.float 1000, .ref 0, .ref 177, .int (nI i)] [] (mk I J) r := by
  have B : Both X d 121 199 [.int (X.2 (i + 1)), .int (X.2 (i + 2))] I J := b_wall (by omega) h
  obtain ⟨v, I1, J1, I2, e1, e2, h'⟩ := B
  refine ⟨I2, J1, h', fun r Hr => ?_⟩
  simp (disch := first | omega | assumption | exact rfl) only [U_269_17, U_269_67, XX, QQ, WW, KK, QX, SHs, RRs, Nat.reduceAdd, Nat.reduceMul, Nat.reduceLeDiff, Nat.reduceEqDiff, List.length_cons, List.length_nil, decide_true, decide_false, Bool.true_and, Bool.and_true, Bool.false_and, Bool.and_false, false_and, and_false, Bool.false_eq_true, Bool.true_eq_false, reduceCtorEq, eq_self, if_true, if_false, true_and, and_true, not_true_eq_false, not_false_eq_true, if_pos, if_neg, z_ite_not, false_or, or_false, true_or, or_true, SWs, swk_0, swk_1, e1, e2]
  exact Hr
theorem lwc_8 {X : Nat × (Nat → Int32)} {d i : Nat} {I : Nat → Nat → Int32} {J : Nat → Nat → Int64} (hd : 62 ≤ d) (hi : i + 6 ≤ X.1) (hL : X.1 ≤ 3072) (h : Inv I J) : ∃ I' J', Inv I' J' ∧ ∀ r, Ev X d 269 1 [.float 1000, .ref 0, .ref 177, .int (nI (i + 6))] [] (mk I' J') r → Ev X d 269 19 [.float 1000, .ref 0, .ref 177, .int (nI i)] [] (mk I J) r := by
  have B : Both X d 122 202 [.int (X.2 (i + 1)), .int (X.2 (i + 2)), .int (X.2 (i + 3))] I J := b_lay (by omega) h
  obtain ⟨v, I1, J1, I2, e1, e2, h'⟩ := B
  refine ⟨I2, J1, h', fun r Hr => ?_⟩
  simp (disch := first | omega | assumption | exact rfl) only [U_269_19, U_269_67, XX, QQ, WW, KK, QX, SHs, RRs, Nat.reduceAdd, Nat.reduceMul, Nat.reduceLeDiff, Nat.reduceEqDiff, List.length_cons, List.length_nil, decide_true, decide_false, Bool.true_and, Bool.and_true, Bool.false_and, Bool.and_false, false_and, and_false, Bool.false_eq_true, Bool.true_eq_false, reduceCtorEq, eq_self, if_true, if_false, true_and, and_true, not_true_eq_false, not_false_eq_true, if_pos, if_neg, z_ite_not, false_or, or_false, true_or, or_true, SWs, swk_0, swk_1, e1, e2]
  exact Hr
theorem lwc_9 {X : Nat × (Nat → Int32)} {d i : Nat} {I : Nat → Nat → Int32} {J : Nat → Nat → Int64} (hd : 62 ≤ d) (hi : i + 6 ≤ X.1) (hL : X.1 ≤ 3072) (h : Inv I J) : ∃ I' J', Inv I' J' ∧ ∀ r, Ev X d 269 1 [.float 1000, .ref 0, .ref 177, .int (nI (i + 6))] [] (mk I' J') r → Ev X d 269 21 [.float 1000, .ref 0, .ref 177, .int (nI i)] [] (mk I J) r := by
  have B : Both X d 123 203 [.int (X.2 (i + 1)), .int (X.2 (i + 2))] I J := b_fill (by omega) h
  obtain ⟨v, I1, J1, I2, e1, e2, h'⟩ := B
  refine ⟨I2, J1, h', fun r Hr => ?_⟩
  simp (disch := first | omega | assumption | exact rfl) only [U_269_21, U_269_67, XX, QQ, WW, KK, QX, SHs, RRs, Nat.reduceAdd, Nat.reduceMul, Nat.reduceLeDiff, Nat.reduceEqDiff, List.length_cons, List.length_nil, decide_true, decide_false, Bool.true_and, Bool.and_true, Bool.false_and, Bool.and_false, false_and, and_false, Bool.false_eq_true, Bool.true_eq_false, reduceCtorEq, eq_self, if_true, if_false, true_and, and_true, not_true_eq_false, not_false_eq_true, if_pos, if_neg, z_ite_not, false_or, or_false, true_or, or_true, SWs, swk_0, swk_1, e1, e2]
  exact Hr
theorem lwc_10 {X : Nat × (Nat → Int32)} {d i : Nat} {I : Nat → Nat → Int32} {J : Nat → Nat → Int64} (hd : 62 ≤ d) (hi : i + 6 ≤ X.1) (hL : X.1 ≤ 3072) (h : Inv I J) : ∃ I' J', Inv I' J' ∧ ∀ r, Ev X d 269 1 [.float 1000, .ref 0, .ref 177, .int (nI (i + 6))] [] (mk I' J') r → Ev X d 269 23 [.float 1000, .ref 0, .ref 177, .int (nI i)] [] (mk I J) r := by
  have B : Both X d 124 204 [.int (X.2 (i + 1)), .int (X.2 (i + 2))] I J := b_at (by omega) h
  obtain ⟨v, I1, J1, I2, e1, e2, h'⟩ := B
  refine ⟨I2, J1, h', fun r Hr => ?_⟩
  simp (disch := first | omega | assumption | exact rfl) only [U_269_23, U_269_67, XX, QQ, WW, KK, QX, SHs, RRs, Nat.reduceAdd, Nat.reduceMul, Nat.reduceLeDiff, Nat.reduceEqDiff, List.length_cons, List.length_nil, decide_true, decide_false, Bool.true_and, Bool.and_true, Bool.false_and, Bool.and_false, false_and, and_false, Bool.false_eq_true, Bool.true_eq_false, reduceCtorEq, eq_self, if_true, if_false, true_and, and_true, not_true_eq_false, not_false_eq_true, if_pos, if_neg, z_ite_not, false_or, or_false, true_or, or_true, SWs, swk_0, swk_1, e1, e2]
  exact Hr
theorem lwc_11 {X : Nat × (Nat → Int32)} {d i : Nat} {I : Nat → Nat → Int32} {J : Nat → Nat → Int64} (hd : 62 ≤ d) (hi : i + 6 ≤ X.1) (hL : X.1 ≤ 3072) (h : Inv I J) : ∃ I' J', Inv I' J' ∧ ∀ r, Ev X d 269 1 [.float 1000, .ref 0, .ref 177, .int (nI (i + 6))] [] (mk I' J') r → Ev X d 269 25 [.float 1000, .ref 0, .ref 177, .int (nI i)] [] (mk I J) r := by
  have B : Both X d 125 213 [.int (X.2 (i + 1)), .int (X.2 (i + 2))] I J := b_beside (by omega) h
  obtain ⟨v, I1, J1, I2, e1, e2, h'⟩ := B
  refine ⟨I2, J1, h', fun r Hr => ?_⟩
  simp (disch := first | omega | assumption | exact rfl) only [U_269_25, U_269_67, XX, QQ, WW, KK, QX, SHs, RRs, Nat.reduceAdd, Nat.reduceMul, Nat.reduceLeDiff, Nat.reduceEqDiff, List.length_cons, List.length_nil, decide_true, decide_false, Bool.true_and, Bool.and_true, Bool.false_and, Bool.and_false, false_and, and_false, Bool.false_eq_true, Bool.true_eq_false, reduceCtorEq, eq_self, if_true, if_false, true_and, and_true, not_true_eq_false, not_false_eq_true, if_pos, if_neg, z_ite_not, false_or, or_false, true_or, or_true, SWs, swk_0, swk_1, e1, e2]
  exact Hr
theorem lwc_12 {X : Nat × (Nat → Int32)} {d i : Nat} {I : Nat → Nat → Int32} {J : Nat → Nat → Int64} (hd : 62 ≤ d) (hi : i + 6 ≤ X.1) (hL : X.1 ≤ 3072) (h : Inv I J) : ∃ I' J', Inv I' J' ∧ ∀ r, Ev X d 269 1 [.float 1000, .ref 0, .ref 177, .int (nI (i + 6))] [] (mk I' J') r → Ev X d 269 27 [.float 1000, .ref 0, .ref 177, .int (nI i)] [] (mk I J) r := by
  have B : Both X d 126 214 [.int (X.2 (i + 1)), .int (X.2 (i + 2)), .int (X.2 (i + 3))] I J := b_good (by omega) h
  obtain ⟨v, I1, J1, I2, e1, e2, h'⟩ := B
  refine ⟨I2, J1, h', fun r Hr => ?_⟩
  simp (disch := first | omega | assumption | exact rfl) only [U_269_27, U_269_67, XX, QQ, WW, KK, QX, SHs, RRs, Nat.reduceAdd, Nat.reduceMul, Nat.reduceLeDiff, Nat.reduceEqDiff, List.length_cons, List.length_nil, decide_true, decide_false, Bool.true_and, Bool.and_true, Bool.false_and, Bool.and_false, false_and, and_false, Bool.false_eq_true, Bool.true_eq_false, reduceCtorEq, eq_self, if_true, if_false, true_and, and_true, not_true_eq_false, not_false_eq_true, if_pos, if_neg, z_ite_not, false_or, or_false, true_or, or_true, SWs, swk_0, swk_1, e1, e2]
  exact Hr
theorem lwc_13 {X : Nat × (Nat → Int32)} {d i : Nat} {I : Nat → Nat → Int32} {J : Nat → Nat → Int64} (hd : 62 ≤ d) (hi : i + 6 ≤ X.1) (hL : X.1 ≤ 3072) (h : Inv I J) : ∃ I' J', Inv I' J' ∧ ∀ r, Ev X d 269 1 [.float 1000, .ref 0, .ref 177, .int (nI (i + 6))] [] (mk I' J') r → Ev X d 269 29 [.float 1000, .ref 0, .ref 177, .int (nI i)] [] (mk I J) r := by
  have B : Both X d 130 215 [.int (X.2 (i + 1)), .int (X.2 (i + 2))] I J := b_judge (by omega) h
  obtain ⟨v, I1, J1, I2, e1, e2, h'⟩ := B
  refine ⟨I2, J1, h', fun r Hr => ?_⟩
  simp (disch := first | omega | assumption | exact rfl) only [U_269_29, U_269_67, XX, QQ, WW, KK, QX, SHs, RRs, Nat.reduceAdd, Nat.reduceMul, Nat.reduceLeDiff, Nat.reduceEqDiff, List.length_cons, List.length_nil, decide_true, decide_false, Bool.true_and, Bool.and_true, Bool.false_and, Bool.and_false, false_and, and_false, Bool.false_eq_true, Bool.true_eq_false, reduceCtorEq, eq_self, if_true, if_false, true_and, and_true, not_true_eq_false, not_false_eq_true, if_pos, if_neg, z_ite_not, false_or, or_false, true_or, or_true, SWs, swk_0, swk_1, e1, e2]
  exact Hr
theorem lwc_14 {X : Nat × (Nat → Int32)} {d i : Nat} {I : Nat → Nat → Int32} {J : Nat → Nat → Int64} (hd : 62 ≤ d) (hi : i + 6 ≤ X.1) (hL : X.1 ≤ 3072) (h : Inv I J) : ∃ I' J', Inv I' J' ∧ ∀ r, Ev X d 269 1 [.float 1000, .ref 0, .ref 177, .int (nI (i + 6))] [] (mk I' J') r → Ev X d 269 31 [.float 1000, .ref 0, .ref 177, .int (nI i)] [] (mk I J) r := by
  have B : Both X d 131 227 [.int (X.2 (i + 1)), .int (X.2 (i + 2)), .int (X.2 (i + 3)), .int (X.2 (i + 4)), .int (X.2 (i + 5))] I J := b_again (by omega) h
  obtain ⟨v, I1, J1, I2, e1, e2, h'⟩ := B
  refine ⟨I2, J1, h', fun r Hr => ?_⟩
  simp (disch := first | omega | assumption | exact rfl) only [U_269_31, U_269_67, XX, QQ, WW, KK, QX, SHs, RRs, Nat.reduceAdd, Nat.reduceMul, Nat.reduceLeDiff, Nat.reduceEqDiff, List.length_cons, List.length_nil, decide_true, decide_false, Bool.true_and, Bool.and_true, Bool.false_and, Bool.and_false, false_and, and_false, Bool.false_eq_true, Bool.true_eq_false, reduceCtorEq, eq_self, if_true, if_false, true_and, and_true, not_true_eq_false, not_false_eq_true, if_pos, if_neg, z_ite_not, false_or, or_false, true_or, or_true, SWs, swk_0, swk_1, e1, e2]
  exact Hr
theorem lwc_15 {X : Nat × (Nat → Int32)} {d i : Nat} {I : Nat → Nat → Int32} {J : Nat → Nat → Int64} (hd : 62 ≤ d) (hi : i + 6 ≤ X.1) (hL : X.1 ≤ 3072) (h : Inv I J) : ∃ I' J', Inv I' J' ∧ ∀ r, Ev X d 269 1 [.float 1000, .ref 0, .ref 177, .int (nI (i + 6))] [] (mk I' J') r → Ev X d 269 33 [.float 1000, .ref 0, .ref 177, .int (nI i)] [] (mk I J) r := by
  have B : Both X d 132 232 [.int (X.2 (i + 1)), .int (X.2 (i + 2)), .int (X.2 (i + 3))] I J := b_years (by omega) h
  obtain ⟨v, I1, J1, I2, e1, e2, h'⟩ := B
  refine ⟨I2, J1, h', fun r Hr => ?_⟩
  simp (disch := first | omega | assumption | exact rfl) only [U_269_33, U_269_67, XX, QQ, WW, KK, QX, SHs, RRs, Nat.reduceAdd, Nat.reduceMul, Nat.reduceLeDiff, Nat.reduceEqDiff, List.length_cons, List.length_nil, decide_true, decide_false, Bool.true_and, Bool.and_true, Bool.false_and, Bool.and_false, false_and, and_false, Bool.false_eq_true, Bool.true_eq_false, reduceCtorEq, eq_self, if_true, if_false, true_and, and_true, not_true_eq_false, not_false_eq_true, if_pos, if_neg, z_ite_not, false_or, or_false, true_or, or_true, SWs, swk_0, swk_1, e1, e2]
  exact Hr
theorem lwc_16 {X : Nat × (Nat → Int32)} {d i : Nat} {I : Nat → Nat → Int32} {J : Nat → Nat → Int64} (hd : 62 ≤ d) (hi : i + 6 ≤ X.1) (hL : X.1 ≤ 3072) (h : Inv I J) : ∃ I' J', Inv I' J' ∧ ∀ r, Ev X d 269 1 [.float 1000, .ref 0, .ref 177, .int (nI (i + 6))] [] (mk I' J') r → Ev X d 269 35 [.float 1000, .ref 0, .ref 177, .int (nI i)] [] (mk I J) r := by
  have B : Both X d 134 234 [.int (X.2 (i + 1)), .int (X.2 (i + 2))] I J := b_history (by omega) h
  obtain ⟨v, I1, J1, I2, e1, e2, h'⟩ := B
  refine ⟨I2, J1, h', fun r Hr => ?_⟩
  simp (disch := first | omega | assumption | exact rfl) only [U_269_35, U_269_67, XX, QQ, WW, KK, QX, SHs, RRs, Nat.reduceAdd, Nat.reduceMul, Nat.reduceLeDiff, Nat.reduceEqDiff, List.length_cons, List.length_nil, decide_true, decide_false, Bool.true_and, Bool.and_true, Bool.false_and, Bool.and_false, false_and, and_false, Bool.false_eq_true, Bool.true_eq_false, reduceCtorEq, eq_self, if_true, if_false, true_and, and_true, not_true_eq_false, not_false_eq_true, if_pos, if_neg, z_ite_not, false_or, or_false, true_or, or_true, SWs, swk_0, swk_1, e1, e2]
  exact Hr
theorem lwc_17 {X : Nat × (Nat → Int32)} {d i : Nat} {I : Nat → Nat → Int32} {J : Nat → Nat → Int64} (hd : 62 ≤ d) (hi : i + 6 ≤ X.1) (hL : X.1 ≤ 3072) (h : Inv I J) : ∃ I' J', Inv I' J' ∧ ∀ r, Ev X d 269 1 [.float 1000, .ref 0, .ref 177, .int (nI (i + 6))] [] (mk I' J') r → Ev X d 269 37 [.float 1000, .ref 0, .ref 177, .int (nI i)] [] (mk I J) r := by
  have B : Both X d 135 238 [.int (X.2 (i + 1))] I J := b_met (by omega) h
  obtain ⟨v, I1, J1, I2, e1, e2, h'⟩ := B
  refine ⟨I2, J1, h', fun r Hr => ?_⟩
  simp (disch := first | omega | assumption | exact rfl) only [U_269_37, U_269_67, XX, QQ, WW, KK, QX, SHs, RRs, Nat.reduceAdd, Nat.reduceMul, Nat.reduceLeDiff, Nat.reduceEqDiff, List.length_cons, List.length_nil, decide_true, decide_false, Bool.true_and, Bool.and_true, Bool.false_and, Bool.and_false, false_and, and_false, Bool.false_eq_true, Bool.true_eq_false, reduceCtorEq, eq_self, if_true, if_false, true_and, and_true, not_true_eq_false, not_false_eq_true, if_pos, if_neg, z_ite_not, false_or, or_false, true_or, or_true, SWs, swk_0, swk_1, e1, e2]
  exact Hr
theorem lwc_18 {X : Nat × (Nat → Int32)} {d i : Nat} {I : Nat → Nat → Int32} {J : Nat → Nat → Int64} (hd : 62 ≤ d) (hi : i + 6 ≤ X.1) (hL : X.1 ≤ 3072) (h : Inv I J) : ∃ I' J', Inv I' J' ∧ ∀ r, Ev X d 269 1 [.float 1000, .ref 0, .ref 177, .int (nI (i + 6))] [] (mk I' J') r → Ev X d 269 39 [.float 1000, .ref 0, .ref 177, .int (nI i)] [] (mk I J) r := by
  have B : Both X d 137 239 [.int (X.2 (i + 1)), .int (X.2 (i + 2)), .int (X.2 (i + 3))] I J := b_two (by omega) h
  obtain ⟨v, I1, J1, I2, e1, e2, h'⟩ := B
  refine ⟨I2, J1, h', fun r Hr => ?_⟩
  simp (disch := first | omega | assumption | exact rfl) only [U_269_39, U_269_67, XX, QQ, WW, KK, QX, SHs, RRs, Nat.reduceAdd, Nat.reduceMul, Nat.reduceLeDiff, Nat.reduceEqDiff, List.length_cons, List.length_nil, decide_true, decide_false, Bool.true_and, Bool.and_true, Bool.false_and, Bool.and_false, false_and, and_false, Bool.false_eq_true, Bool.true_eq_false, reduceCtorEq, eq_self, if_true, if_false, true_and, and_true, not_true_eq_false, not_false_eq_true, if_pos, if_neg, z_ite_not, false_or, or_false, true_or, or_true, SWs, swk_0, swk_1, e1, e2]
  exact Hr
theorem lwc_19 {X : Nat × (Nat → Int32)} {d i : Nat} {I : Nat → Nat → Int32} {J : Nat → Nat → Int64} (hd : 62 ≤ d) (hi : i + 6 ≤ X.1) (hL : X.1 ≤ 3072) (h : Inv I J) : ∃ I' J', Inv I' J' ∧ ∀ r, Ev X d 269 1 [.float 1000, .ref 0, .ref 177, .int (nI (i + 6))] [] (mk I' J') r → Ev X d 269 41 [.float 1000, .ref 0, .ref 177, .int (nI i)] [] (mk I J) r := by
  have B : Both X d 138 244 [.int (X.2 (i + 1)), .int (X.2 (i + 2))] I J := b_parting (by omega) h
  obtain ⟨v, I1, J1, I2, e1, e2, h'⟩ := B
  refine ⟨I2, J1, h', fun r Hr => ?_⟩
  simp (disch := first | omega | assumption | exact rfl) only [U_269_41, U_269_67, XX, QQ, WW, KK, QX, SHs, RRs, Nat.reduceAdd, Nat.reduceMul, Nat.reduceLeDiff, Nat.reduceEqDiff, List.length_cons, List.length_nil, decide_true, decide_false, Bool.true_and, Bool.and_true, Bool.false_and, Bool.and_false, false_and, and_false, Bool.false_eq_true, Bool.true_eq_false, reduceCtorEq, eq_self, if_true, if_false, true_and, and_true, not_true_eq_false, not_false_eq_true, if_pos, if_neg, z_ite_not, false_or, or_false, true_or, or_true, SWs, swk_0, swk_1, e1, e2]
  exact Hr
theorem lwc_20 {X : Nat × (Nat → Int32)} {d i : Nat} {I : Nat → Nat → Int32} {J : Nat → Nat → Int64} (hd : 62 ≤ d) (hi : i + 6 ≤ X.1) (hL : X.1 ≤ 3072) (h : Inv I J) : ∃ I' J', Inv I' J' ∧ ∀ r, Ev X d 269 1 [.float 1000, .ref 0, .ref 177, .int (nI (i + 6))] [] (mk I' J') r → Ev X d 269 43 [.float 1000, .ref 0, .ref 177, .int (nI i)] [] (mk I J) r := by
  have B : Both X d 139 246 [.int (X.2 (i + 1)), .int (X.2 (i + 2)), .int (X.2 (i + 3))] I J := b_layings (by omega) h
  obtain ⟨v, I1, J1, I2, e1, e2, h'⟩ := B
  refine ⟨I2, J1, h', fun r Hr => ?_⟩
  simp (disch := first | omega | assumption | exact rfl) only [U_269_43, U_269_67, XX, QQ, WW, KK, QX, SHs, RRs, Nat.reduceAdd, Nat.reduceMul, Nat.reduceLeDiff, Nat.reduceEqDiff, List.length_cons, List.length_nil, decide_true, decide_false, Bool.true_and, Bool.and_true, Bool.false_and, Bool.and_false, false_and, and_false, Bool.false_eq_true, Bool.true_eq_false, reduceCtorEq, eq_self, if_true, if_false, true_and, and_true, not_true_eq_false, not_false_eq_true, if_pos, if_neg, z_ite_not, false_or, or_false, true_or, or_true, SWs, swk_0, swk_1, e1, e2]
  exact Hr
theorem lwc_21 {X : Nat × (Nat → Int32)} {d i : Nat} {I : Nat → Nat → Int32} {J : Nat → Nat → Int64} (hd : 62 ≤ d) (hi : i + 6 ≤ X.1) (hL : X.1 ≤ 3072) (h : Inv I J) : ∃ I' J', Inv I' J' ∧ ∀ r, Ev X d 269 1 [.float 1000, .ref 0, .ref 177, .int (nI (i + 6))] [] (mk I' J') r → Ev X d 269 45 [.float 1000, .ref 0, .ref 177, .int (nI i)] [] (mk I J) r := by
  have B : Both X d 140 250 [.int (X.2 (i + 1)), .int (X.2 (i + 2)), .int (X.2 (i + 3))] I J := b_order (by omega) h
  obtain ⟨v, I1, J1, I2, e1, e2, h'⟩ := B
  refine ⟨I2, J1, h', fun r Hr => ?_⟩
  simp (disch := first | omega | assumption | exact rfl) only [U_269_45, U_269_67, XX, QQ, WW, KK, QX, SHs, RRs, Nat.reduceAdd, Nat.reduceMul, Nat.reduceLeDiff, Nat.reduceEqDiff, List.length_cons, List.length_nil, decide_true, decide_false, Bool.true_and, Bool.and_true, Bool.false_and, Bool.and_false, false_and, and_false, Bool.false_eq_true, Bool.true_eq_false, reduceCtorEq, eq_self, if_true, if_false, true_and, and_true, not_true_eq_false, not_false_eq_true, if_pos, if_neg, z_ite_not, false_or, or_false, true_or, or_true, SWs, swk_0, swk_1, e1, e2]
  exact Hr
theorem lwc_22 {X : Nat × (Nat → Int32)} {d i : Nat} {I : Nat → Nat → Int32} {J : Nat → Nat → Int64} (hd : 62 ≤ d) (hi : i + 6 ≤ X.1) (hL : X.1 ≤ 3072) (h : Inv I J) : ∃ I' J', Inv I' J' ∧ ∀ r, Ev X d 269 1 [.float 1000, .ref 0, .ref 177, .int (nI (i + 6))] [] (mk I' J') r → Ev X d 269 47 [.float 1000, .ref 0, .ref 177, .int (nI i)] [] (mk I J) r := by
  have B : Both X d 141 251 [.int (X.2 (i + 1)), .int (X.2 (i + 2))] I J := b_borne (by omega) h
  obtain ⟨v, I1, J1, I2, e1, e2, h'⟩ := B
  refine ⟨I2, J1, h', fun r Hr => ?_⟩
  simp (disch := first | omega | assumption | exact rfl) only [U_269_47, U_269_67, XX, QQ, WW, KK, QX, SHs, RRs, Nat.reduceAdd, Nat.reduceMul, Nat.reduceLeDiff, Nat.reduceEqDiff, List.length_cons, List.length_nil, decide_true, decide_false, Bool.true_and, Bool.and_true, Bool.false_and, Bool.and_false, false_and, and_false, Bool.false_eq_true, Bool.true_eq_false, reduceCtorEq, eq_self, if_true, if_false, true_and, and_true, not_true_eq_false, not_false_eq_true, if_pos, if_neg, z_ite_not, false_or, or_false, true_or, or_true, SWs, swk_0, swk_1, e1, e2]
  exact Hr
theorem lwc_23 {X : Nat × (Nat → Int32)} {d i : Nat} {I : Nat → Nat → Int32} {J : Nat → Nat → Int64} (hd : 62 ≤ d) (hi : i + 6 ≤ X.1) (hL : X.1 ≤ 3072) (h : Inv I J) : ∃ I' J', Inv I' J' ∧ ∀ r, Ev X d 269 1 [.float 1000, .ref 0, .ref 177, .int (nI (i + 6))] [] (mk I' J') r → Ev X d 269 49 [.float 1000, .ref 0, .ref 177, .int (nI i)] [] (mk I J) r := by
  have B : Both X d 142 252 [.int (X.2 (i + 1))] I J := b_spares (by omega) h
  obtain ⟨v, I1, J1, I2, e1, e2, h'⟩ := B
  refine ⟨I2, J1, h', fun r Hr => ?_⟩
  simp (disch := first | omega | assumption | exact rfl) only [U_269_49, U_269_67, XX, QQ, WW, KK, QX, SHs, RRs, Nat.reduceAdd, Nat.reduceMul, Nat.reduceLeDiff, Nat.reduceEqDiff, List.length_cons, List.length_nil, decide_true, decide_false, Bool.true_and, Bool.and_true, Bool.false_and, Bool.and_false, false_and, and_false, Bool.false_eq_true, Bool.true_eq_false, reduceCtorEq, eq_self, if_true, if_false, true_and, and_true, not_true_eq_false, not_false_eq_true, if_pos, if_neg, z_ite_not, false_or, or_false, true_or, or_true, SWs, swk_0, swk_1, e1, e2]
  exact Hr
theorem lwc_24 {X : Nat × (Nat → Int32)} {d i : Nat} {I : Nat → Nat → Int32} {J : Nat → Nat → Int64} (hd : 62 ≤ d) (hi : i + 6 ≤ X.1) (hL : X.1 ≤ 3072) (h : Inv I J) : ∃ I' J', Inv I' J' ∧ ∀ r, Ev X d 269 1 [.float 1000, .ref 0, .ref 177, .int (nI (i + 6))] [] (mk I' J') r → Ev X d 269 51 [.float 1000, .ref 0, .ref 177, .int (nI i)] [] (mk I J) r := by
  have B : Both X d 145 253 [.int (X.2 (i + 1)), .int (X.2 (i + 2)), .int (X.2 (i + 3))] I J := b_door (by omega) h
  obtain ⟨v, I1, J1, I2, e1, e2, h'⟩ := B
  refine ⟨I2, J1, h', fun r Hr => ?_⟩
  simp (disch := first | omega | assumption | exact rfl) only [U_269_51, U_269_67, XX, QQ, WW, KK, QX, SHs, RRs, Nat.reduceAdd, Nat.reduceMul, Nat.reduceLeDiff, Nat.reduceEqDiff, List.length_cons, List.length_nil, decide_true, decide_false, Bool.true_and, Bool.and_true, Bool.false_and, Bool.and_false, false_and, and_false, Bool.false_eq_true, Bool.true_eq_false, reduceCtorEq, eq_self, if_true, if_false, true_and, and_true, not_true_eq_false, not_false_eq_true, if_pos, if_neg, z_ite_not, false_or, or_false, true_or, or_true, SWs, swk_0, swk_1, e1, e2]
  exact Hr
theorem lwc_25 {X : Nat × (Nat → Int32)} {d i : Nat} {I : Nat → Nat → Int32} {J : Nat → Nat → Int64} (hd : 62 ≤ d) (hi : i + 6 ≤ X.1) (hL : X.1 ≤ 3072) (h : Inv I J) : ∃ I' J', Inv I' J' ∧ ∀ r, Ev X d 269 1 [.float 1000, .ref 0, .ref 177, .int (nI (i + 6))] [] (mk I' J') r → Ev X d 269 53 [.float 1000, .ref 0, .ref 177, .int (nI i)] [] (mk I J) r := by
  have B : Both X d 146 255 [.int (X.2 (i + 1)), .int (X.2 (i + 2)), .int (X.2 (i + 3))] I J := b_older (by omega) h
  obtain ⟨v, I1, J1, I2, e1, e2, h'⟩ := B
  refine ⟨I2, J1, h', fun r Hr => ?_⟩
  simp (disch := first | omega | assumption | exact rfl) only [U_269_53, U_269_67, XX, QQ, WW, KK, QX, SHs, RRs, Nat.reduceAdd, Nat.reduceMul, Nat.reduceLeDiff, Nat.reduceEqDiff, List.length_cons, List.length_nil, decide_true, decide_false, Bool.true_and, Bool.and_true, Bool.false_and, Bool.and_false, false_and, and_false, Bool.false_eq_true, Bool.true_eq_false, reduceCtorEq, eq_self, if_true, if_false, true_and, and_true, not_true_eq_false, not_false_eq_true, if_pos, if_neg, z_ite_not, false_or, or_false, true_or, or_true, SWs, swk_0, swk_1, e1, e2]
  exact Hr
theorem lwc_26 {X : Nat × (Nat → Int32)} {d i : Nat} {I : Nat → Nat → Int32} {J : Nat → Nat → Int64} (hd : 62 ≤ d) (hi : i + 6 ≤ X.1) (hL : X.1 ≤ 3072) (h : Inv I J) : ∃ I' J', Inv I' J' ∧ ∀ r, Ev X d 269 1 [.float 1000, .ref 0, .ref 177, .int (nI (i + 6))] [] (mk I' J') r → Ev X d 269 55 [.float 1000, .ref 0, .ref 177, .int (nI i)] [] (mk I J) r := by
  have B : Both X d 149 256 [.int (X.2 (i + 1)), .int (X.2 (i + 2))] I J := b_red (by omega) h
  obtain ⟨v, I1, J1, I2, e1, e2, h'⟩ := B
  refine ⟨I2, J1, h', fun r Hr => ?_⟩
  simp (disch := first | omega | assumption | exact rfl) only [U_269_55, U_269_67, XX, QQ, WW, KK, QX, SHs, RRs, Nat.reduceAdd, Nat.reduceMul, Nat.reduceLeDiff, Nat.reduceEqDiff, List.length_cons, List.length_nil, decide_true, decide_false, Bool.true_and, Bool.and_true, Bool.false_and, Bool.and_false, false_and, and_false, Bool.false_eq_true, Bool.true_eq_false, reduceCtorEq, eq_self, if_true, if_false, true_and, and_true, not_true_eq_false, not_false_eq_true, if_pos, if_neg, z_ite_not, false_or, or_false, true_or, or_true, SWs, swk_0, swk_1, e1, e2]
  exact Hr
theorem lwc_27 {X : Nat × (Nat → Int32)} {d i : Nat} {I : Nat → Nat → Int32} {J : Nat → Nat → Int64} (hd : 62 ≤ d) (hi : i + 6 ≤ X.1) (hL : X.1 ≤ 3072) (h : Inv I J) : ∃ I' J', Inv I' J' ∧ ∀ r, Ev X d 269 1 [.float 1000, .ref 0, .ref 177, .int (nI (i + 6))] [] (mk I' J') r → Ev X d 269 57 [.float 1000, .ref 0, .ref 177, .int (nI i)] [] (mk I J) r := by
  have i1 : i + 1 < X.1 := by omega
  by_cases z : X.2 (i + 1) = 0
  · obtain ⟨v, I1, J1, I2, e1, e2, h'⟩ := b_image (X := X) (d := d) (v := nI 0) (by omega) h (Or.inl rfl)
    refine ⟨I2, J1, h', fun r Hr => ?_⟩
    simp (disch := first | omega | assumption | exact rfl) only [U_269_57, U_269_59, U_269_60, U_269_62, U_269_63, U_269_67, XX, QQ, WW, KK, QX, SHs, RRs, Nat.reduceAdd, Nat.reduceMul, Nat.reduceLeDiff, Nat.reduceEqDiff, List.length_cons, List.length_nil, decide_true, decide_false, Bool.true_and, Bool.and_true, Bool.false_and, Bool.and_false, false_and, and_false, Bool.false_eq_true, Bool.true_eq_false, reduceCtorEq, eq_self, if_true, if_false, true_and, and_true, not_true_eq_false, not_false_eq_true, if_pos, if_neg, z_ite_not, false_or, or_false, true_or, or_true, SWs, swk_0, swk_1, z, e1, e2]
    exact Hr
  · obtain ⟨v, I1, J1, I2, e1, e2, h'⟩ := b_image (X := X) (d := d) (v := nI 1) (by omega) h (Or.inr rfl)
    refine ⟨I2, J1, h', fun r Hr => ?_⟩
    simp (disch := first | omega | assumption | exact rfl) only [U_269_57, U_269_58, U_269_60, U_269_61, U_269_63, U_269_67, XX, QQ, WW, KK, QX, SHs, RRs, Nat.reduceAdd, Nat.reduceMul, Nat.reduceLeDiff, Nat.reduceEqDiff, List.length_cons, List.length_nil, decide_true, decide_false, Bool.true_and, Bool.and_true, Bool.false_and, Bool.and_false, false_and, and_false, Bool.false_eq_true, Bool.true_eq_false, reduceCtorEq, eq_self, if_true, if_false, true_and, and_true, not_true_eq_false, not_false_eq_true, if_pos, if_neg, z_ite_not, false_or, or_false, true_or, or_true, SWs, swk_0, swk_1, z, e1, e2]
    exact Hr
theorem lwc_28 {X : Nat × (Nat → Int32)} {d i : Nat} {I : Nat → Nat → Int32} {J : Nat → Nat → Int64} (hd : 62 ≤ d) (hi : i + 6 ≤ X.1) (hL : X.1 ≤ 3072) (h : Inv I J) : ∃ I' J', Inv I' J' ∧ ∀ r, Ev X d 269 1 [.float 1000, .ref 0, .ref 177, .int (nI (i + 6))] [] (mk I' J') r → Ev X d 269 65 [.float 1000, .ref 0, .ref 177, .int (nI i)] [] (mk I J) r := by
  have B : Both X d 151 258 [.int (X.2 (i + 1))] I J := b_look (by omega) h
  obtain ⟨v, I1, J1, I2, e1, e2, h'⟩ := B
  refine ⟨I2, J1, h', fun r Hr => ?_⟩
  simp (disch := first | omega | assumption | exact rfl) only [U_269_65, U_269_67, XX, QQ, WW, KK, QX, SHs, RRs, Nat.reduceAdd, Nat.reduceMul, Nat.reduceLeDiff, Nat.reduceEqDiff, List.length_cons, List.length_nil, decide_true, decide_false, Bool.true_and, Bool.and_true, Bool.false_and, Bool.and_false, false_and, and_false, Bool.false_eq_true, Bool.true_eq_false, reduceCtorEq, eq_self, if_true, if_false, true_and, and_true, not_true_eq_false, not_false_eq_true, if_pos, if_neg, z_ite_not, false_or, or_false, true_or, or_true, SWs, swk_0, swk_1, e1, e2]
  exact Hr
theorem lwc_d {X : Nat × (Nat → Int32)} {d i : Nat} {I : Nat → Nat → Int32} {J : Nat → Nat → Int64} (hd : 62 ≤ d) (hi : i + 6 ≤ X.1) (hL : X.1 ≤ 3072) (h : Inv I J) : ∃ I' J', Inv I' J' ∧ ∀ r, Ev X d 269 1 [.float 1000, .ref 0, .ref 177, .int (nI (i + 6))] [] (mk I' J') r → Ev X d 269 67 [.float 1000, .ref 0, .ref 177, .int (nI i)] [] (mk I J) r := by
  refine ⟨I, J, h, fun r Hr => ?_⟩
  simp (disch := first | omega | assumption | exact rfl) only [U_269_67, XX, QQ, WW, KK, QX, SHs, RRs, Nat.reduceAdd, Nat.reduceMul, Nat.reduceLeDiff, Nat.reduceEqDiff, List.length_cons, List.length_nil, decide_true, decide_false, Bool.true_and, Bool.and_true, Bool.false_and, Bool.and_false, false_and, and_false, Bool.false_eq_true, Bool.true_eq_false, reduceCtorEq, eq_self, if_true, if_false, true_and, and_true, not_true_eq_false, not_false_eq_true, if_pos, if_neg, z_ite_not, false_or, or_false, true_or, or_true, SWs, swk_0, swk_1]
  exact Hr
