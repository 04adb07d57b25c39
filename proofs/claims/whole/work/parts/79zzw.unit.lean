/-! ===== a unit of a sum, a number, a sign that must stand: class and reference ===== -/
section UNI
variable {X : Nat × (Nat → Int32)} {d : Nat} {I : Nat → Nat → Int32} {J : Nat → Nat → Int64} {tp : Nat → Nat} {tl m : Nat} {W : List Int32} {o : Nat} {Q : List (Nat × Nat)}
theorem c_unitN {dv : Bool} (hd : 2 ≤ d) (h : CPs I tp tl m W) (hw : W.length < 400) (k2 : psK tp tl m = 2) (hz : dv = true → psV tp tl m ≠ 0) : ∃ I', callF X d 64 [.ref 124, .int (bI dv)] (mk I J) = some (some (.int (nI 1)), mk I' J) ∧ CFr I I' ∧ CPs I' tp tl (m + 1) (W ++ [nI (psV tp tl m)]) := by
  obtain ⟨d, rfl⟩ : ∃ d', d = d' + 1 := ⟨d - 1, by omega⟩
  obtain ⟨k5, k6, k7⟩ := CPs_k h
  have vb := psV_b (tp := tp) (tl := tl) (m := m)
  have hm := psK_lt h.2.2.2.2.1 (by rw [k2]; decide)
  obtain ⟨I1, e1, f1, s1⟩ := c_wr (X := X) (d := d) (J := J) (x := nI (psV tp tl m)) (by omega) h hw
  obtain ⟨I2, e2, f2, s2⟩ := c_nx (X := X) (d := d) (J := J) (by omega) s1 hm
  refine ⟨I2, ?_, CFr_trans f1 f2, s2⟩
  refine callF_of (by decide) (Nat.le_of_ble_eq_true rfl) ?_
  show Ev X d 64 0 [.ref 124, .int (bI dv), .retAddr 0, .retAddr 0] [] ( mk I J) _
  cases dv
  · simp (disch := first | omega | assumption | exact rfl) only [U_64_0, U_64_3, U_64_4, U_64_8, U_64_11, U_64_13, U_64_14, XX, QQ, WW, KK, QX, SHs, RRs, Nat.reduceAdd, Nat.reduceMul, Nat.reduceLeDiff, Nat.reduceEqDiff, List.length_cons, List.length_nil, decide_true, decide_false, Bool.true_and, Bool.and_true, Bool.false_and, Bool.and_false, false_and, and_false, Bool.false_eq_true, Bool.true_eq_false, reduceCtorEq, eq_self, if_true, if_false, true_and, and_true, not_true_eq_false, not_false_eq_true, if_pos, if_neg, z_ite_not, false_or, or_false, true_or, or_true, SWs, swk_0, swk_1, k5, k7, k2, e1, e2]
  · have nz := hz rfl
    simp (disch := first | omega | assumption | exact rfl) only [U_64_0, U_64_3, U_64_4, U_64_8, U_64_9, U_64_11, U_64_13, U_64_14, XX, QQ, WW, KK, QX, SHs, RRs, Nat.reduceAdd, Nat.reduceMul, Nat.reduceLeDiff, Nat.reduceEqDiff, List.length_cons, List.length_nil, decide_true, decide_false, Bool.true_and, Bool.and_true, Bool.false_and, Bool.and_false, false_and, and_false, Bool.false_eq_true, Bool.true_eq_false, reduceCtorEq, eq_self, if_true, if_false, true_and, and_true, not_true_eq_false, not_false_eq_true, if_pos, if_neg, z_ite_not, false_or, or_false, true_or, or_true, SWs, swk_0, swk_1, k5, k7, k2, nz, e1, e2]
theorem c_unitW (hd : 2 ≤ d) (h : CPs I tp tl m W) (hw : W.length < 400) (k2 : 271 ≤ psK tp tl m) : ∃ I', callF X d 64 [.ref 124, .int (bI false)] (mk I J) = some (some (.int (nI 1)), mk I' J) ∧ CFr I I' ∧ CPs I' tp tl (m + 1) (W ++ [-(nI (psK tp tl m))]) := by
  obtain ⟨d, rfl⟩ : ∃ d', d = d' + 1 := ⟨d - 1, by omega⟩
  obtain ⟨k5, k6, k7⟩ := CPs_k h
  have kb := psK_b (tp := tp) (tl := tl) (m := m)
  have hm := psK_lt h.2.2.2.2.1 (by omega)
  obtain ⟨I1, e1, f1, s1⟩ := c_wr (X := X) (d := d) (J := J) (x := -(nI (psK tp tl m))) (by omega) h hw
  obtain ⟨I2, e2, f2, s2⟩ := c_nx (X := X) (d := d) (J := J) (by omega) s1 hm
  refine ⟨I2, ?_, CFr_trans f1 f2, s2⟩
  refine callF_of (by decide) (Nat.le_of_ble_eq_true rfl) ?_
  show Ev X d 64 0 [.ref 124, .int (bI false), .retAddr 0, .retAddr 0] [] ( mk I J) _
  have z1 : ¬ psK tp tl m < 271 := by omega
  have z2 : psK tp tl m ≤ 275 := by omega
  have z3 : ¬ psK tp tl m = 2 := by omega
  simp (disch := first | omega | assumption | exact rfl) only [U_64_0, U_64_1, U_64_2, U_64_4, U_64_5, U_64_6, U_64_8, U_64_11, U_64_12, U_64_14, XX, QQ, WW, KK, QX, SHs, RRs, Nat.reduceAdd, Nat.reduceMul, Nat.reduceLeDiff, Nat.reduceEqDiff, List.length_cons, List.length_nil, decide_true, decide_false, Bool.true_and, Bool.and_true, Bool.false_and, Bool.and_false, false_and, and_false, Bool.false_eq_true, Bool.true_eq_false, reduceCtorEq, eq_self, if_true, if_false, true_and, and_true, not_true_eq_false, not_false_eq_true, if_pos, if_neg, z_ite_not, false_or, or_false, true_or, or_true, SWs, swk_0, swk_1, k5, k7, z1, z2, z3, e1, e2]
theorem c_unitF {dv : Bool} (hd : 2 ≤ d) (h : CPs I tp tl m W) (k2 : psK tp tl m ≠ 2) (kw : dv = true ∨ psK tp tl m < 271) : ∃ I', callF X d 64 [.ref 124, .int (bI dv)] (mk I J) = some (some (.int (nI 0)), mk I' J) ∧ CGl I I' 1 (tpo tp tl m) := by
  obtain ⟨d, rfl⟩ : ∃ d', d = d' + 1 := ⟨d - 1, by omega⟩
  obtain ⟨k5, k6, k7⟩ := CPs_k h
  have kb := psK_b (tp := tp) (tl := tl) (m := m)
  obtain ⟨I1, e1, f1⟩ := c_flG (X := X) (d := d) (I := I) (J := J) (k := 1) (p := tpo tp tl m) (by omega) h
  refine ⟨I1, ?_, f1⟩
  refine callF_of (by decide) (Nat.le_of_ble_eq_true rfl) ?_
  show Ev X d 64 0 [.ref 124, .int (bI dv), .retAddr 0, .retAddr 0] [] ( mk I J) _
  have z2 : psK tp tl m ≤ 275 := by omega
  cases dv
  · have z1 : psK tp tl m < 271 := by rcases kw with q | q; cases q; exact q
    simp (disch := first | omega | assumption | exact rfl) only [U_64_0, U_64_3, U_64_4, U_64_5, U_64_6, U_64_7, XX, QQ, WW, KK, QX, SHs, RRs, Nat.reduceAdd, Nat.reduceMul, Nat.reduceLeDiff, Nat.reduceEqDiff, List.length_cons, List.length_nil, decide_true, decide_false, Bool.true_and, Bool.and_true, Bool.false_and, Bool.and_false, false_and, and_false, Bool.false_eq_true, Bool.true_eq_false, reduceCtorEq, eq_self, if_true, if_false, true_and, and_true, not_true_eq_false, not_false_eq_true, if_pos, if_neg, z_ite_not, false_or, or_false, true_or, or_true, SWs, swk_0, swk_1, k5, k6, k2, z1, e1]
  · by_cases z1 : psK tp tl m < 271
    · simp (disch := first | omega | assumption | exact rfl) only [U_64_0, U_64_3, U_64_4, U_64_5, U_64_7, XX, QQ, WW, KK, QX, SHs, RRs, Nat.reduceAdd, Nat.reduceMul, Nat.reduceLeDiff, Nat.reduceEqDiff, List.length_cons, List.length_nil, decide_true, decide_false, Bool.true_and, Bool.and_true, Bool.false_and, Bool.and_false, false_and, and_false, Bool.false_eq_true, Bool.true_eq_false, reduceCtorEq, eq_self, if_true, if_false, true_and, and_true, not_true_eq_false, not_false_eq_true, if_pos, if_neg, z_ite_not, false_or, or_false, true_or, or_true, SWs, swk_0, swk_1, k5, k6, k2, z1, e1]
    · simp (disch := first | omega | assumption | exact rfl) only [U_64_0, U_64_1, U_64_2, U_64_4, U_64_5, U_64_7, XX, QQ, WW, KK, QX, SHs, RRs, Nat.reduceAdd, Nat.reduceMul, Nat.reduceLeDiff, Nat.reduceEqDiff, List.length_cons, List.length_nil, decide_true, decide_false, Bool.true_and, Bool.and_true, Bool.false_and, Bool.and_false, false_and, and_false, Bool.false_eq_true, Bool.true_eq_false, reduceCtorEq, eq_self, if_true, if_false, true_and, and_true, not_true_eq_false, not_false_eq_true, if_pos, if_neg, z_ite_not, false_or, or_false, true_or, or_true, SWs, swk_0, swk_1, k5, k6, k2, z1, z2, e1]
theorem c_unitZ (hd : 2 ≤ d) (h : CPs I tp tl m W) (k2 : psK tp tl m = 2) (hz : psV tp tl m = 0) : ∃ I', callF X d 64 [.ref 124, .int (bI true)] (mk I J) = some (some (.int (nI 0)), mk I' J) ∧ CGl I I' 2 (tpo tp tl m) := by
  obtain ⟨d, rfl⟩ : ∃ d', d = d' + 1 := ⟨d - 1, by omega⟩
  obtain ⟨k5, k6, k7⟩ := CPs_k h
  obtain ⟨I1, e1, f1⟩ := c_flG (X := X) (d := d) (I := I) (J := J) (k := 2) (p := tpo tp tl m) (by omega) h
  refine ⟨I1, ?_, f1⟩
  refine callF_of (by decide) (Nat.le_of_ble_eq_true rfl) ?_
  show Ev X d 64 0 [.ref 124, .int (bI true), .retAddr 0, .retAddr 0] [] ( mk I J) _
  simp (disch := first | omega | assumption | exact rfl) only [U_64_0, U_64_3, U_64_4, U_64_8, U_64_9, U_64_10, XX, QQ, WW, KK, QX, SHs, RRs, Nat.reduceAdd, Nat.reduceMul, Nat.reduceLeDiff, Nat.reduceEqDiff, List.length_cons, List.length_nil, decide_true, decide_false, Bool.true_and, Bool.and_true, Bool.false_and, Bool.and_false, false_and, and_false, Bool.false_eq_true, Bool.true_eq_false, reduceCtorEq, eq_self, if_true, if_false, true_and, and_true, not_true_eq_false, not_false_eq_true, if_pos, if_neg, z_ite_not, false_or, or_false, true_or, or_true, SWs, swk_0, swk_1, k5, k6, k7, k2, hz, e1]
theorem c_accY {k : Nat} (hd : 2 ≤ d) (h : CPs I tp tl m W) (hk : psK tp tl m = k) (h0 : k ≠ 0) : ∃ I', callF X d 52 [.ref 124, .int (nI k)] (mk I J) = some (some (.int (nI 1)), mk I' J) ∧ CFr I I' ∧ CPs I' tp tl (m + 1) W := by
  obtain ⟨d, rfl⟩ : ∃ d', d = d' + 1 := ⟨d - 1, by omega⟩
  obtain ⟨k5, k6, k7⟩ := CPs_k h
  have hm := psK_lt h.2.2.2.2.1 (by omega)
  obtain ⟨I2, e2, f2, s2⟩ := c_nx (X := X) (d := d) (J := J) (by omega) h hm
  refine ⟨I2, ?_, f2, s2⟩
  refine callF_of (by decide) (Nat.le_of_ble_eq_true rfl) ?_
  show Ev X d 52 0 [.ref 124, .int (nI k)] [] ( mk I J) _
  simp (disch := first | omega | assumption | exact rfl) only [U_52_0, U_52_2, XX, QQ, WW, KK, QX, SHs, RRs, Nat.reduceAdd, Nat.reduceMul, Nat.reduceLeDiff, Nat.reduceEqDiff, List.length_cons, List.length_nil, decide_true, decide_false, Bool.true_and, Bool.and_true, Bool.false_and, Bool.and_false, false_and, and_false, Bool.false_eq_true, Bool.true_eq_false, reduceCtorEq, eq_self, if_true, if_false, true_and, and_true, not_true_eq_false, not_false_eq_true, if_pos, if_neg, z_ite_not, false_or, or_false, true_or, or_true, SWs, swk_0, swk_1, k5, hk, e2]
theorem c_accF {k : Nat} (hd : 2 ≤ d) (h : CPs I tp tl m W) (hk : psK tp tl m ≠ k) (h0 : k < 276) : ∃ I', callF X d 52 [.ref 124, .int (nI k)] (mk I J) = some (some (.int (nI 0)), mk I' J) ∧ CGl I I' 1 (tpo tp tl m) := by
  obtain ⟨d, rfl⟩ : ∃ d', d = d' + 1 := ⟨d - 1, by omega⟩
  obtain ⟨k5, k6, k7⟩ := CPs_k h
  have kb := psK_b (tp := tp) (tl := tl) (m := m)
  obtain ⟨I1, e1, f1⟩ := c_flG (X := X) (d := d) (I := I) (J := J) (k := 1) (p := tpo tp tl m) (by omega) h
  refine ⟨I1, ?_, f1⟩
  refine callF_of (by decide) (Nat.le_of_ble_eq_true rfl) ?_
  show Ev X d 52 0 [.ref 124, .int (nI k)] [] ( mk I J) _
  simp (disch := first | omega | assumption | exact rfl) only [U_52_0, U_52_1, XX, QQ, WW, KK, QX, SHs, RRs, Nat.reduceAdd, Nat.reduceMul, Nat.reduceLeDiff, Nat.reduceEqDiff, List.length_cons, List.length_nil, decide_true, decide_false, Bool.true_and, Bool.and_true, Bool.false_and, Bool.and_false, false_and, and_false, Bool.false_eq_true, Bool.true_eq_false, reduceCtorEq, eq_self, if_true, if_false, true_and, and_true, not_true_eq_false, not_false_eq_true, if_pos, if_neg, z_ite_not, false_or, or_false, true_or, or_true, SWs, swk_0, swk_1, k5, k6, hk, e1]
/-! the reference -/
theorem r_unitN (hd : 15 ≤ d) (h : RPs I tp tl m Q o) (hq : Q.length < 400) (k2 : psK tp tl m = 2) : ∃ I', callF X d 176 [.ref 177] (mk I J) = some (some (.int (nI 1)), mk I' J) ∧ RFr I I' ∧ RPs I' tp tl (m + 1) (Q ++ [(0, psV tp tl m)]) o := by
  obtain ⟨d, rfl⟩ : ∃ d', d = d' + 1 := ⟨d - 1, by omega⟩
  obtain ⟨k5, k6, k7⟩ := RPs_k h
  have k8 := k7 k2
  have vb := psV_b (tp := tp) (tl := tl) (m := m)
  have hm := psK_lt h.2.2.2.1 (by rw [k2]; decide)
  have k9 : I 177 14 = nI 2 := by rw [k5, k2]; rfl
  obtain ⟨I1, e1, f1, s1⟩ := r_lay0 (X := X) (d := d) (J := J) (op := 0) (v := nI (psV tp tl m)) (x := psV tp tl m) (by omega) h hq (fun _ => rfl)
  obtain ⟨I2, e2, f2, s2⟩ := r_nx (X := X) (d := d) (J := J) (by omega) s1 hm
  refine ⟨I2, ?_, RFr_trans f1 f2, s2⟩
  refine callF_of (by decide) (Nat.le_of_ble_eq_true rfl) ?_
  show Ev X d 176 0 [.ref 177, .retAddr 0] [] ( mk I J) _
  simp (disch := first | omega | assumption | exact rfl) only [U_176_0, U_176_3, U_176_5, U_176_6, XX, QQ, WW, KK, QX, SHs, RRs, Nat.reduceAdd, Nat.reduceMul, Nat.reduceLeDiff, Nat.reduceEqDiff, List.length_cons, List.length_nil, decide_true, decide_false, Bool.true_and, Bool.and_true, Bool.false_and, Bool.and_false, false_and, and_false, Bool.false_eq_true, Bool.true_eq_false, reduceCtorEq, eq_self, if_true, if_false, true_and, and_true, not_true_eq_false, not_false_eq_true, if_pos, if_neg, z_ite_not, false_or, or_false, true_or, or_true, SWs, swk_0, swk_1, r_isIn, k9, k8, e1, e2]
theorem r_unitW (hd : 15 ≤ d) (h : RPs I tp tl m Q o) (hq : Q.length < 400) (k2 : 271 ≤ psK tp tl m) : ∃ I', callF X d 176 [.ref 177] (mk I J) = some (some (.int (nI 1)), mk I' J) ∧ RFr I I' ∧ RPs I' tp tl (m + 1) (Q ++ [(psK tp tl m - 270, 0)]) o := by
  obtain ⟨d, rfl⟩ : ∃ d', d = d' + 1 := ⟨d - 1, by omega⟩
  obtain ⟨k5, k6, k7⟩ := RPs_k h
  have kb := psK_b (tp := tp) (tl := tl) (m := m)
  have hm := psK_lt h.2.2.2.1 (by omega)
  rw [(rq_4 _ kb).2.1 k2] at k5
  obtain ⟨k, ek⟩ : ∃ k, psK tp tl m = k + 271 := ⟨psK tp tl m - 271, by omega⟩
  have k9 : I 177 14 = nI (k + 41) := by rw [k5, ek, show k + 271 - 230 = k + 41 by omega]
  have e3 : psK tp tl m - 270 = k + 1 := by omega
  have e4 : nI (k + 41) - nI 40 = nI (k + 1) := by rw [q_sub (by omega)]; congr 1
  have k4 : k < 5 := by omega
  obtain ⟨I1, e1, f1, s1⟩ := r_lay0 (X := X) (d := d) (J := J) (op := k + 1) (v := I 177 16) (x := 0) (by omega) h hq (fun z => by omega)
  obtain ⟨I2, e2, f2, s2⟩ := r_nx (X := X) (d := d) (J := J) (by omega) s1 hm
  rw [← e3] at s2
  refine ⟨I2, ?_, RFr_trans f1 f2, s2⟩
  refine callF_of (by decide) (Nat.le_of_ble_eq_true rfl) ?_
  show Ev X d 176 0 [.ref 177, .retAddr 0] [] ( mk I J) _
  have z1 : 41 ≤ k + 41 := by omega
  have z2 : k + 41 ≤ 45 := by omega
  have z3 : ¬ k + 41 = 2 := by omega
  have z4 : k + 41 - 40 = k + 1 := by omega
  simp (disch := first | omega | assumption | exact rfl) only [U_176_0, U_176_1, U_176_3, U_176_4, U_176_6, XX, QQ, WW, KK, QX, SHs, RRs, Nat.reduceAdd, Nat.reduceMul, Nat.reduceLeDiff, Nat.reduceEqDiff, List.length_cons, List.length_nil, decide_true, decide_false, Bool.true_and, Bool.and_true, Bool.false_and, Bool.and_false, false_and, and_false, Bool.false_eq_true, Bool.true_eq_false, reduceCtorEq, eq_self, if_true, if_false, true_and, and_true, not_true_eq_false, not_false_eq_true, if_pos, if_neg, z_ite_not, false_or, or_false, true_or, or_true, SWs, swk_0, swk_1, r_isIn, k9, z1, z2, z3, z4, e1, e2]
theorem r_unitF (hd : 15 ≤ d) (h : RPs I tp tl m Q o) (k2 : psK tp tl m ≠ 2) (kw : psK tp tl m < 271) : ∃ I', callF X d 176 [.ref 177] (mk I J) = some (some (.int (nI 0)), mk I' J) ∧ RFl I I' 1 (tpo tp tl m) := by
  obtain ⟨d, rfl⟩ : ∃ d', d = d' + 1 := ⟨d - 1, by omega⟩
  obtain ⟨k5, k6, k7⟩ := RPs_k h
  have kb := psK_b (tp := tp) (tl := tl) (m := m)
  have g1 := (rq_1 _ kb).2.2.2.2
  have g2 := rq_4 _ kb
  obtain ⟨r, er⟩ : ∃ r, r = rtk false (psK tp tl m) := ⟨_, rfl⟩
  rw [← er] at g1 g2 k5
  obtain ⟨I1, e1, f1⟩ := r_bad (X := X) (d := d) (I := I) (J := J) (k := 1) (p := tpo tp tl m) (by omega) k6
  refine ⟨I1, ?_, f1⟩
  refine callF_of (by decide) (Nat.le_of_ble_eq_true rfl) ?_
  show Ev X d 176 0 [.ref 177, .retAddr 0] [] ( mk I J) _
  have z1 : ¬ r = 2 := fun z => k2 (g1.mp z)
  have z2 : ¬ (41 ≤ r ∧ r ≤ 45) := fun z => by have := g2.1.mp z; omega
  by_cases z3 : 41 ≤ r
  · have z4 : ¬ r ≤ 45 := fun z => z2 ⟨z3, z⟩
    simp (disch := first | omega | assumption | exact rfl) only [U_176_0, U_176_1, U_176_2, XX, QQ, WW, KK, QX, SHs, RRs, Nat.reduceAdd, Nat.reduceMul, Nat.reduceLeDiff, Nat.reduceEqDiff, List.length_cons, List.length_nil, decide_true, decide_false, Bool.true_and, Bool.and_true, Bool.false_and, Bool.and_false, false_and, and_false, Bool.false_eq_true, Bool.true_eq_false, reduceCtorEq, eq_self, if_true, if_false, true_and, and_true, not_true_eq_false, not_false_eq_true, if_pos, if_neg, z_ite_not, false_or, or_false, true_or, or_true, SWs, swk_0, swk_1, r_isIn, k5, z1, z3, z4, e1]
  · simp (disch := first | omega | assumption | exact rfl) only [U_176_0, U_176_1, U_176_2, XX, QQ, WW, KK, QX, SHs, RRs, Nat.reduceAdd, Nat.reduceMul, Nat.reduceLeDiff, Nat.reduceEqDiff, List.length_cons, List.length_nil, decide_true, decide_false, Bool.true_and, Bool.and_true, Bool.false_and, Bool.and_false, false_and, and_false, Bool.false_eq_true, Bool.true_eq_false, reduceCtorEq, eq_self, if_true, if_false, true_and, and_true, not_true_eq_false, not_false_eq_true, if_pos, if_neg, z_ite_not, false_or, or_false, true_or, or_true, SWs, swk_0, swk_1, r_isIn, k5, z1, z3, e1]
theorem r_numY {a b : Nat} (hd : 15 ≤ d) (h : RPs I tp tl m Q o) (k2 : psK tp tl m = 2) (ha : a ≤ psV tp tl m) (hb : psV tp tl m ≤ b) (hb2 : b ≤ 9999) : ∃ I', callF X d 171 [.ref 177, .int (nI a), .int (nI b)] (mk I J) = some (some (.int (nI 1)), mk I' J) ∧ RFr I I' ∧ RPs I' tp tl (m + 1) Q o := by
  obtain ⟨d, rfl⟩ : ∃ d', d = d' + 1 := ⟨d - 1, by omega⟩
  obtain ⟨k5, k6, k7⟩ := RPs_k h
  have k8 := k7 k2
  have hm := psK_lt h.2.2.2.1 (by rw [k2]; decide)
  have k9 : I 177 14 = nI 2 := by rw [k5, k2]; rfl
  obtain ⟨I2, e2, f2, s2⟩ := r_nx (X := X) (d := d) (J := J) (by omega) h hm
  refine ⟨I2, ?_, f2, s2⟩
  refine callF_of (by decide) (Nat.le_of_ble_eq_true rfl) ?_
  show Ev X d 171 0 [.ref 177, .int (nI a), .int (nI b)] [] ( mk I J) _
  simp (disch := first | omega | assumption | exact rfl) only [U_171_0, U_171_2, U_171_4, XX, QQ, WW, KK, QX, SHs, RRs, Nat.reduceAdd, Nat.reduceMul, Nat.reduceLeDiff, Nat.reduceEqDiff, List.length_cons, List.length_nil, decide_true, decide_false, Bool.true_and, Bool.and_true, Bool.false_and, Bool.and_false, false_and, and_false, Bool.false_eq_true, Bool.true_eq_false, reduceCtorEq, eq_self, if_true, if_false, true_and, and_true, not_true_eq_false, not_false_eq_true, if_pos, if_neg, z_ite_not, false_or, or_false, true_or, or_true, SWs, swk_0, swk_1, r_isIn, k9, k8, ha, hb, e2]
theorem r_numF {a b : Nat} (hd : 15 ≤ d) (h : RPs I tp tl m Q o) (k2 : psK tp tl m ≠ 2) : ∃ I', callF X d 171 [.ref 177, .int (nI a), .int (nI b)] (mk I J) = some (some (.int (nI 0)), mk I' J) ∧ RFl I I' 1 (tpo tp tl m) := by
  obtain ⟨d, rfl⟩ : ∃ d', d = d' + 1 := ⟨d - 1, by omega⟩
  obtain ⟨k5, k6, k7⟩ := RPs_k h
  have kb := psK_b (tp := tp) (tl := tl) (m := m)
  have g1 := (rq_1 _ kb).2.2.2.2
  have g2 := rq_4 _ kb
  obtain ⟨r, er⟩ : ∃ r, r = rtk false (psK tp tl m) := ⟨_, rfl⟩
  rw [← er] at g1 g2 k5
  obtain ⟨I1, e1, f1⟩ := r_bad (X := X) (d := d) (I := I) (J := J) (k := 1) (p := tpo tp tl m) (by omega) k6
  refine ⟨I1, ?_, f1⟩
  refine callF_of (by decide) (Nat.le_of_ble_eq_true rfl) ?_
  show Ev X d 171 0 [.ref 177, .int (nI a), .int (nI b)] [] ( mk I J) _
  have z1 : ¬ r = 2 := fun z => k2 (g1.mp z)
  simp (disch := first | omega | assumption | exact rfl) only [U_171_0, U_171_1, XX, QQ, WW, KK, QX, SHs, RRs, Nat.reduceAdd, Nat.reduceMul, Nat.reduceLeDiff, Nat.reduceEqDiff, List.length_cons, List.length_nil, decide_true, decide_false, Bool.true_and, Bool.and_true, Bool.false_and, Bool.and_false, false_and, and_false, Bool.false_eq_true, Bool.true_eq_false, reduceCtorEq, eq_self, if_true, if_false, true_and, and_true, not_true_eq_false, not_false_eq_true, if_pos, if_neg, z_ite_not, false_or, or_false, true_or, or_true, SWs, swk_0, swk_1, k5, z1, e1]
theorem r_numZ {a b : Nat} (hd : 15 ≤ d) (h : RPs I tp tl m Q o) (k2 : psK tp tl m = 2) (ha : a ≤ 9999) (hb : b ≤ 9999) (hz : ¬ (a ≤ psV tp tl m ∧ psV tp tl m ≤ b)) : ∃ I', callF X d 171 [.ref 177, .int (nI a), .int (nI b)] (mk I J) = some (some (.int (nI 0)), mk I' J) ∧ RFl I I' 2 (tpo tp tl m) := by
  obtain ⟨d, rfl⟩ : ∃ d', d = d' + 1 := ⟨d - 1, by omega⟩
  obtain ⟨k5, k6, k7⟩ := RPs_k h
  have k8 := k7 k2
  have k9 : I 177 14 = nI 2 := by rw [k5, k2]; rfl
  have vb := psV_b (tp := tp) (tl := tl) (m := m)
  obtain ⟨I1, e1, f1⟩ := r_bad (X := X) (d := d) (I := I) (J := J) (k := 2) (p := tpo tp tl m) (by omega) k6
  refine ⟨I1, ?_, f1⟩
  refine callF_of (by decide) (Nat.le_of_ble_eq_true rfl) ?_
  show Ev X d 171 0 [.ref 177, .int (nI a), .int (nI b)] [] ( mk I J) _
  by_cases z3 : a ≤ psV tp tl m
  · have z4 : ¬ psV tp tl m ≤ b := fun z => hz ⟨z3, z⟩
    simp (disch := first | omega | assumption | exact rfl) only [U_171_0, U_171_2, U_171_3, XX, QQ, WW, KK, QX, SHs, RRs, Nat.reduceAdd, Nat.reduceMul, Nat.reduceLeDiff, Nat.reduceEqDiff, List.length_cons, List.length_nil, decide_true, decide_false, Bool.true_and, Bool.and_true, Bool.false_and, Bool.and_false, false_and, and_false, Bool.false_eq_true, Bool.true_eq_false, reduceCtorEq, eq_self, if_true, if_false, true_and, and_true, not_true_eq_false, not_false_eq_true, if_pos, if_neg, z_ite_not, false_or, or_false, true_or, or_true, SWs, swk_0, swk_1, r_isIn, k9, k8, z3, z4, e1]
  · simp (disch := first | omega | assumption | exact rfl) only [U_171_0, U_171_2, U_171_3, XX, QQ, WW, KK, QX, SHs, RRs, Nat.reduceAdd, Nat.reduceMul, Nat.reduceLeDiff, Nat.reduceEqDiff, List.length_cons, List.length_nil, decide_true, decide_false, Bool.true_and, Bool.and_true, Bool.false_and, Bool.and_false, false_and, and_false, Bool.false_eq_true, Bool.true_eq_false, reduceCtorEq, eq_self, if_true, if_false, true_and, and_true, not_true_eq_false, not_false_eq_true, if_pos, if_neg, z_ite_not, false_or, or_false, true_or, or_true, SWs, swk_0, swk_1, r_isIn, k9, k8, z3, e1]
theorem r_needY {k c : Nat} (hd : 15 ≤ d) (h : RPs I tp tl m Q o) (hk : psK tp tl m = k) (h0 : k ≠ 0) (hc : rtk false k = c) : ∃ I', callF X d 170 [.ref 177, .int (nI c)] (mk I J) = some (some (.int (nI 1)), mk I' J) ∧ RFr I I' ∧ RPs I' tp tl (m + 1) Q o := by
  obtain ⟨d, rfl⟩ : ∃ d', d = d' + 1 := ⟨d - 1, by omega⟩
  obtain ⟨k5, k6, k7⟩ := RPs_k h
  have hm := psK_lt h.2.2.2.1 (by omega)
  have k9 : I 177 14 = nI c := by rw [k5, hk, hc]
  obtain ⟨I2, e2, f2, s2⟩ := r_nx (X := X) (d := d) (J := J) (by omega) h hm
  refine ⟨I2, ?_, f2, s2⟩
  refine callF_of (by decide) (Nat.le_of_ble_eq_true rfl) ?_
  show Ev X d 170 0 [.ref 177, .int (nI c)] [] ( mk I J) _
  simp (disch := first | omega | assumption | exact rfl) only [U_170_0, U_170_2, XX, QQ, WW, KK, QX, SHs, RRs, Nat.reduceAdd, Nat.reduceMul, Nat.reduceLeDiff, Nat.reduceEqDiff, List.length_cons, List.length_nil, decide_true, decide_false, Bool.true_and, Bool.and_true, Bool.false_and, Bool.and_false, false_and, and_false, Bool.false_eq_true, Bool.true_eq_false, reduceCtorEq, eq_self, if_true, if_false, true_and, and_true, not_true_eq_false, not_false_eq_true, if_pos, if_neg, z_ite_not, false_or, or_false, true_or, or_true, SWs, swk_0, swk_1, k9, e2]
theorem r_needF {c : Nat} (hd : 15 ≤ d) (h : RPs I tp tl m Q o) (hk : rtk false (psK tp tl m) ≠ c) (hc : c < 400) : ∃ I', callF X d 170 [.ref 177, .int (nI c)] (mk I J) = some (some (.int (nI 0)), mk I' J) ∧ RFl I I' 1 (tpo tp tl m) := by
  obtain ⟨d, rfl⟩ : ∃ d', d = d' + 1 := ⟨d - 1, by omega⟩
  obtain ⟨k5, k6, k7⟩ := RPs_k h
  have kb := psK_b (tp := tp) (tl := tl) (m := m)
  have g2 := rq_4 _ kb
  obtain ⟨I1, e1, f1⟩ := r_bad (X := X) (d := d) (I := I) (J := J) (k := 1) (p := tpo tp tl m) (by omega) k6
  refine ⟨I1, ?_, f1⟩
  refine callF_of (by decide) (Nat.le_of_ble_eq_true rfl) ?_
  show Ev X d 170 0 [.ref 177, .int (nI c)] [] ( mk I J) _
  have g3 := g2.2.2.2.2
  simp (disch := first | omega | assumption | exact rfl) only [U_170_0, U_170_1, XX, QQ, WW, KK, QX, SHs, RRs, Nat.reduceAdd, Nat.reduceMul, Nat.reduceLeDiff, Nat.reduceEqDiff, List.length_cons, List.length_nil, decide_true, decide_false, Bool.true_and, Bool.and_true, Bool.false_and, Bool.and_false, false_and, and_false, Bool.false_eq_true, Bool.true_eq_false, reduceCtorEq, eq_self, if_true, if_false, true_and, and_true, not_true_eq_false, not_false_eq_true, if_pos, if_neg, z_ite_not, false_or, or_false, true_or, or_true, SWs, swk_0, swk_1, k5, hk, e1]
theorem c_numY {a b : Nat} (hd : 2 ≤ d) (h : CPs I tp tl m W) (k2 : psK tp tl m = 2) (ha : a ≤ psV tp tl m) (hb : psV tp tl m ≤ b) (hb2 : b ≤ 9999) : ∃ I', callF X d 53 [.ref 124, .int (nI a), .int (nI b)] (mk I J) = some (some (.int (nI (psV tp tl m))), mk I' J) ∧ CFr I I' ∧ CPs I' tp tl (m + 1) W := by
  obtain ⟨d, rfl⟩ : ∃ d', d = d' + 1 := ⟨d - 1, by omega⟩
  obtain ⟨k5, k6, k7⟩ := CPs_k h
  have hm := psK_lt h.2.2.2.2.1 (by rw [k2]; decide)
  obtain ⟨I2, e2, f2, s2⟩ := c_nx (X := X) (d := d) (J := J) (by omega) h hm
  refine ⟨I2, ?_, f2, s2⟩
  refine callF_of (by decide) (Nat.le_of_ble_eq_true rfl) ?_
  show Ev X d 53 0 [.ref 124, .int (nI a), .int (nI b), .retAddr 0] [] ( mk I J) _
  simp (disch := first | omega | assumption | exact rfl) only [U_53_0, U_53_2, U_53_3, U_53_5, XX, QQ, WW, KK, QX, SHs, RRs, Nat.reduceAdd, Nat.reduceMul, Nat.reduceLeDiff, Nat.reduceEqDiff, List.length_cons, List.length_nil, decide_true, decide_false, Bool.true_and, Bool.and_true, Bool.false_and, Bool.and_false, false_and, and_false, Bool.false_eq_true, Bool.true_eq_false, reduceCtorEq, eq_self, if_true, if_false, true_and, and_true, not_true_eq_false, not_false_eq_true, if_pos, if_neg, z_ite_not, false_or, or_false, true_or, or_true, SWs, swk_0, swk_1, k5, k7, k2, ha, hb, e2]
theorem c_numF {a b : Nat} (hd : 2 ≤ d) (h : CPs I tp tl m W) (k2 : psK tp tl m ≠ 2) : ∃ I', callF X d 53 [.ref 124, .int (nI a), .int (nI b)] (mk I J) = some (some (.int (-1)), mk I' J) ∧ CFl I I' 1 (tpo tp tl m) := by
  obtain ⟨d, rfl⟩ : ∃ d', d = d' + 1 := ⟨d - 1, by omega⟩
  obtain ⟨k5, k6, k7⟩ := CPs_k h
  have kb := psK_b (tp := tp) (tl := tl) (m := m)
  obtain ⟨I1, e1, f1⟩ := c_fl (X := X) (d := d) (I := I) (J := J) (k := 1) (p := tpo tp tl m) (by omega)
  refine ⟨I1, ?_, f1⟩
  refine callF_of (by decide) (Nat.le_of_ble_eq_true rfl) ?_
  show Ev X d 53 0 [.ref 124, .int (nI a), .int (nI b), .retAddr 0] [] ( mk I J) _
  simp (disch := first | omega | assumption | exact rfl) only [U_53_0, U_53_1, XX, QQ, WW, KK, QX, SHs, RRs, Nat.reduceAdd, Nat.reduceMul, Nat.reduceLeDiff, Nat.reduceEqDiff, List.length_cons, List.length_nil, decide_true, decide_false, Bool.true_and, Bool.and_true, Bool.false_and, Bool.and_false, false_and, and_false, Bool.false_eq_true, Bool.true_eq_false, reduceCtorEq, eq_self, if_true, if_false, true_and, and_true, not_true_eq_false, not_false_eq_true, if_pos, if_neg, z_ite_not, false_or, or_false, true_or, or_true, SWs, swk_0, swk_1, k5, k6, k7, k2, e1]
theorem c_numZ {a b : Nat} (hd : 2 ≤ d) (h : CPs I tp tl m W) (k2 : psK tp tl m = 2) (ha : a ≤ 9999) (hb : b ≤ 9999) (hz : ¬ (a ≤ psV tp tl m ∧ psV tp tl m ≤ b)) : ∃ I', callF X d 53 [.ref 124, .int (nI a), .int (nI b)] (mk I J) = some (some (.int (-1)), mk I' J) ∧ CFl I I' 2 (tpo tp tl m) := by
  obtain ⟨d, rfl⟩ : ∃ d', d = d' + 1 := ⟨d - 1, by omega⟩
  obtain ⟨k5, k6, k7⟩ := CPs_k h
  have vb := psV_b (tp := tp) (tl := tl) (m := m)
  obtain ⟨I1, e1, f1⟩ := c_fl (X := X) (d := d) (I := I) (J := J) (k := 2) (p := tpo tp tl m) (by omega)
  refine ⟨I1, ?_, f1⟩
  refine callF_of (by decide) (Nat.le_of_ble_eq_true rfl) ?_
  show Ev X d 53 0 [.ref 124, .int (nI a), .int (nI b), .retAddr 0] [] ( mk I J) _
  by_cases z3 : a ≤ psV tp tl m
  · have z4 : ¬ psV tp tl m ≤ b := fun z => hz ⟨z3, z⟩
    have z5 : ¬ psV tp tl m < a := by omega
    simp (disch := first | omega | assumption | exact rfl) only [U_53_0, U_53_2, U_53_3, U_53_4, XX, QQ, WW, KK, QX, SHs, RRs, Nat.reduceAdd, Nat.reduceMul, Nat.reduceLeDiff, Nat.reduceEqDiff, List.length_cons, List.length_nil, decide_true, decide_false, Bool.true_and, Bool.and_true, Bool.false_and, Bool.and_false, false_and, and_false, Bool.false_eq_true, Bool.true_eq_false, reduceCtorEq, eq_self, if_true, if_false, true_and, and_true, not_true_eq_false, not_false_eq_true, if_pos, if_neg, z_ite_not, false_or, or_false, true_or, or_true, SWs, swk_0, swk_1, k5, k6, k7, k2, z4, z5, e1]
  · have z5 : psV tp tl m < a := by omega
    simp (disch := first | omega | assumption | exact rfl) only [U_53_0, U_53_2, U_53_4, XX, QQ, WW, KK, QX, SHs, RRs, Nat.reduceAdd, Nat.reduceMul, Nat.reduceLeDiff, Nat.reduceEqDiff, List.length_cons, List.length_nil, decide_true, decide_false, Bool.true_and, Bool.and_true, Bool.false_and, Bool.and_false, false_and, and_false, Bool.false_eq_true, Bool.true_eq_false, reduceCtorEq, eq_self, if_true, if_false, true_and, and_true, not_true_eq_false, not_false_eq_true, if_pos, if_neg, z_ite_not, false_or, or_false, true_or, or_true, SWs, swk_0, swk_1, k5, k6, k7, k2, z5, e1]
end UNI
