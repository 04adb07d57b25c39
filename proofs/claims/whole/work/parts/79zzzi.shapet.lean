/-! ===== reading a shape: the state at a token ===== -/
theorem rs_1 : ∀ k, k < 276 → (rtk true k = 2 ↔ k = 2) ∧ (rtk true k = 159 ↔ k = 59) ∧ (rtk true k = 0 ↔ k = 0) ∧ (20 ≤ rtk true k ∧ rtk true k ≤ 23 ↔ 256 ≤ k ∧ k < 260) ∧ (256 ≤ k → k < 260 → rtk true k = k - 236) ∧ rtk true k < 400 := by decide +kernel
def CQs (I : Nat → Nat → Int32) (tp : Nat → Nat) (tl m : Nat) : Prop := tl ≤ 400 ∧ I 125 3 = nI (tkT tp tl + 1) ∧ ROWc I tp tl (tkT tp tl + 1) ∧ CURc I tp tl m ∧ m ≤ tkT tp tl
def RQs (I : Nat → Nat → Int32) (tp : Nat → Nat) (tl m : Nat) : Prop := RTp I tp tl ∧ (∃ w, w < 6 ∧ I 177 9 = nI w) ∧ RCur I tp tl true m ∧ m ≤ tkT tp tl
theorem CQs_k {I : Nat → Nat → Int32} {tp : Nat → Nat} {tl m : Nat} (h : CQs I tp tl m) : I 125 5 = nI (psK tp tl m) ∧ I 125 6 = nI (tpo tp tl m) ∧ I 125 7 = nI (psV tp tl m) := h.2.2.2.1.2
theorem RQs_k {I : Nat → Nat → Int32} {tp : Nat → Nat} {tl m : Nat} (h : RQs I tp tl m) : I 177 14 = nI (rtk true (psK tp tl m)) ∧ I 177 15 = nI (tpo tp tl m) ∧ (psK tp tl m = 2 → I 177 16 = nI (psV tp tl m)) := h.2.2.1.2
section SHT
variable {X : Nat × (Nat → Int32)} {d : Nat} {I : Nat → Nat → Int32} {J : Nat → Nat → Int64} {tp : Nat → Nat} {tl m : Nat}
theorem cs_nx (hd : 1 ≤ d) (h : CQs I tp tl m) (hm : m < tkT tp tl) : ∃ I', callF X d 91 [.ref 125] (mk I J) = some (none, mk I' J) ∧ CFr I I' ∧ CQs I' tp tl (m + 1) := by
  obtain ⟨h1, h2, h3, h4, h5⟩ := h
  obtain ⟨I', e, c, f, g⟩ := c_next (X := X) (d := d) (J := J) hd h2 h1 h3 h5 h4.1
  rw [if_pos hm] at c
  refine ⟨I', e, ⟨fun a x _ _ => f a x, fun k _ => by rw [f 129 (by decide)]⟩, h1, g, fun j hj => ?_, c, by omega⟩
  rw [f 126 (by decide), f 127 (by decide), f 128 (by decide)]; exact h3 j hj
theorem rs_nx (hd : 14 ≤ d) (h : RQs I tp tl m) (hm : m < tkT tp tl) : ∃ I', callF X d 168 [.ref 177] (mk I J) = some (none, mk I' J) ∧ RFr I I' ∧ RQs I' tp tl (m + 1) := by
  obtain ⟨h1, ⟨w, w2, w3⟩, h3, h4⟩ := h
  have ew : decide (w < 6) = true := decide_eq_true w2
  rw [← ew] at h3
  obtain ⟨g, e, c, f⟩ := r_nextT (X := X) (d := d) (J := J) hd h1 w3 (by omega) h3 h4
  rw [if_pos hm, ew] at c
  refine ⟨_, e, ⟨fun a a1 a2 => vu_ne a1, fun k k1 k2 k3 k4 k5 k6 k7 => by rw [vu_eq]; exact f k k2 k3 k4 k5⟩, ⟨h1.1, ?_, fun i hi => ?_⟩, ⟨w, w2, ?_⟩, c, by omega⟩
  · rw [vu_eq, f _ (by decide) (by decide) (by decide) (by decide)]; exact h1.2.1
  · rw [vu_ne (by decide)]; exact h1.2.2 i hi
  · rw [vu_eq, f _ (by decide) (by decide) (by decide) (by decide)]; exact w3
theorem cs_accY {k : Nat} (hd : 2 ≤ d) (h : CQs I tp tl m) (hk : psK tp tl m = k) (h0 : k ≠ 0) : ∃ I', callF X d 52 [.ref 124, .int (nI k)] (mk I J) = some (some (.int (nI 1)), mk I' J) ∧ CFr I I' ∧ CQs I' tp tl (m + 1) := by
  obtain ⟨d, rfl⟩ : ∃ d', d = d' + 1 := ⟨d - 1, by omega⟩
  obtain ⟨k5, k6, k7⟩ := CQs_k h
  have hm := psK_lt h.2.2.2.2 (by omega)
  obtain ⟨I2, e2, f2, s2⟩ := cs_nx (X := X) (d := d) (J := J) (by omega) h hm
  refine ⟨I2, ?_, f2, s2⟩
  refine callF_of (by decide) (Nat.le_of_ble_eq_true rfl) ?_
  show Ev X d 52 0 [.ref 124, .int (nI k)] [] ( mk I J) _
  simp (disch := first | omega | assumption | exact rfl) only [U_52_0, U_52_2, XX, QQ, WW, KK, QX, SHs, RRs, Nat.reduceAdd, Nat.reduceMul, Nat.reduceLeDiff, Nat.reduceEqDiff, List.length_cons, List.length_nil, decide_true, decide_false, Bool.true_and, Bool.and_true, Bool.false_and, Bool.and_false, false_and, and_false, Bool.false_eq_true, Bool.true_eq_false, reduceCtorEq, eq_self, if_true, if_false, true_and, and_true, not_true_eq_false, not_false_eq_true, if_pos, if_neg, z_ite_not, false_or, or_false, true_or, or_true, SWs, swk_0, swk_1, k5, hk, e2]
theorem cs_accF {k : Nat} (hd : 2 ≤ d) (h : CQs I tp tl m) (hk : psK tp tl m ≠ k) (h0 : k < 276) : ∃ I', callF X d 52 [.ref 124, .int (nI k)] (mk I J) = some (some (.int (nI 0)), mk I' J) ∧ CFl I I' 1 (tpo tp tl m) := by
  obtain ⟨d, rfl⟩ : ∃ d', d = d' + 1 := ⟨d - 1, by omega⟩
  obtain ⟨k5, k6, k7⟩ := CQs_k h
  have kb := psK_b (tp := tp) (tl := tl) (m := m)
  obtain ⟨I1, e1, f1⟩ := c_fl (X := X) (d := d) (I := I) (J := J) (k := 1) (p := tpo tp tl m) (by omega)
  refine ⟨I1, ?_, f1⟩
  refine callF_of (by decide) (Nat.le_of_ble_eq_true rfl) ?_
  show Ev X d 52 0 [.ref 124, .int (nI k)] [] ( mk I J) _
  simp (disch := first | omega | assumption | exact rfl) only [U_52_0, U_52_1, XX, QQ, WW, KK, QX, SHs, RRs, Nat.reduceAdd, Nat.reduceMul, Nat.reduceLeDiff, Nat.reduceEqDiff, List.length_cons, List.length_nil, decide_true, decide_false, Bool.true_and, Bool.and_true, Bool.false_and, Bool.and_false, false_and, and_false, Bool.false_eq_true, Bool.true_eq_false, reduceCtorEq, eq_self, if_true, if_false, true_and, and_true, not_true_eq_false, not_false_eq_true, if_pos, if_neg, z_ite_not, false_or, or_false, true_or, or_true, SWs, swk_0, swk_1, k5, k6, hk, e1]
/-! the reference -/
theorem rs_numY {a b : Nat} (hd : 15 ≤ d) (h : RQs I tp tl m) (k2 : psK tp tl m = 2) (ha : a ≤ psV tp tl m) (hb : psV tp tl m ≤ b) (hb2 : b ≤ 9999) : ∃ I', callF X d 171 [.ref 177, .int (nI a), .int (nI b)] (mk I J) = some (some (.int (nI 1)), mk I' J) ∧ RFr I I' ∧ RQs I' tp tl (m + 1) := by
  obtain ⟨d, rfl⟩ : ∃ d', d = d' + 1 := ⟨d - 1, by omega⟩
  obtain ⟨k5, k6, k7⟩ := RQs_k h
  have k8 := k7 k2
  have hm := psK_lt h.2.2.2 (by rw [k2]; decide)
  have k9 : I 177 14 = nI 2 := by rw [k5, k2]; rfl
  obtain ⟨I2, e2, f2, s2⟩ := rs_nx (X := X) (d := d) (J := J) (by omega) h hm
  refine ⟨I2, ?_, f2, s2⟩
  refine callF_of (by decide) (Nat.le_of_ble_eq_true rfl) ?_
  show Ev X d 171 0 [.ref 177, .int (nI a), .int (nI b)] [] ( mk I J) _
  simp (disch := first | omega | assumption | exact rfl) only [U_171_0, U_171_2, U_171_4, XX, QQ, WW, KK, QX, SHs, RRs, Nat.reduceAdd, Nat.reduceMul, Nat.reduceLeDiff, Nat.reduceEqDiff, List.length_cons, List.length_nil, decide_true, decide_false, Bool.true_and, Bool.and_true, Bool.false_and, Bool.and_false, false_and, and_false, Bool.false_eq_true, Bool.true_eq_false, reduceCtorEq, eq_self, if_true, if_false, true_and, and_true, not_true_eq_false, not_false_eq_true, if_pos, if_neg, z_ite_not, false_or, or_false, true_or, or_true, SWs, swk_0, swk_1, r_isIn, k9, k8, ha, hb, e2]
theorem rs_numF {a b : Nat} (hd : 15 ≤ d) (h : RQs I tp tl m) (k2 : psK tp tl m ≠ 2) : ∃ I', callF X d 171 [.ref 177, .int (nI a), .int (nI b)] (mk I J) = some (some (.int (nI 0)), mk I' J) ∧ RFl I I' 1 (tpo tp tl m) := by
  obtain ⟨d, rfl⟩ : ∃ d', d = d' + 1 := ⟨d - 1, by omega⟩
  obtain ⟨k5, k6, k7⟩ := RQs_k h
  have kb := psK_b (tp := tp) (tl := tl) (m := m)
  have g1 := (rs_1 _ kb).1
  have g2 := rs_1 _ kb
  obtain ⟨r, er⟩ : ∃ r, r = rtk true (psK tp tl m) := ⟨_, rfl⟩
  rw [← er] at g1 g2 k5
  obtain ⟨I1, e1, f1⟩ := r_bad (X := X) (d := d) (I := I) (J := J) (k := 1) (p := tpo tp tl m) (by omega) k6
  refine ⟨I1, ?_, f1⟩
  refine callF_of (by decide) (Nat.le_of_ble_eq_true rfl) ?_
  show Ev X d 171 0 [.ref 177, .int (nI a), .int (nI b)] [] ( mk I J) _
  have z1 : ¬ r = 2 := fun z => k2 (g1.mp z)
  simp (disch := first | omega | assumption | exact rfl) only [U_171_0, U_171_1, XX, QQ, WW, KK, QX, SHs, RRs, Nat.reduceAdd, Nat.reduceMul, Nat.reduceLeDiff, Nat.reduceEqDiff, List.length_cons, List.length_nil, decide_true, decide_false, Bool.true_and, Bool.and_true, Bool.false_and, Bool.and_false, false_and, and_false, Bool.false_eq_true, Bool.true_eq_false, reduceCtorEq, eq_self, if_true, if_false, true_and, and_true, not_true_eq_false, not_false_eq_true, if_pos, if_neg, z_ite_not, false_or, or_false, true_or, or_true, SWs, swk_0, swk_1, k5, z1, e1]
theorem rs_numZ {a b : Nat} (hd : 15 ≤ d) (h : RQs I tp tl m) (k2 : psK tp tl m = 2) (ha : a ≤ 9999) (hb : b ≤ 9999) (hz : ¬ (a ≤ psV tp tl m ∧ psV tp tl m ≤ b)) : ∃ I', callF X d 171 [.ref 177, .int (nI a), .int (nI b)] (mk I J) = some (some (.int (nI 0)), mk I' J) ∧ RFl I I' 2 (tpo tp tl m) := by
  obtain ⟨d, rfl⟩ : ∃ d', d = d' + 1 := ⟨d - 1, by omega⟩
  obtain ⟨k5, k6, k7⟩ := RQs_k h
  have k8 := k7 k2
  have k9 : I 177 14 = nI 2 := by rw [k5, k2]; rfl
  have vb := psV_b (tp := tp) (tl := tl) (m := m)
  obtain ⟨I1, e1, f1⟩ := r_bad (X := X) (d := d) (I := I) (J := J) (k := 2) (p := tpo tp tl m) (by omega) k6
  refine ⟨I1, ?_, f1⟩
  refine callF_of (by decide) (Nat.le_of_ble_eq_true rfl) ?_
  show Ev X d 171 0 [.ref 177, .int (nI a), .int (nI b)] [] ( mk I J) _
  by_cases z3 : a ≤ psV tp tl m
  · have z4 : ¬ psV tp tl m ≤ b := fun z => hz ⟨z3, z⟩
    simp (disch := first | omega | assumption | exact rfl) only [U_171_0, U_171_2, U_171_3, XX, QQ, WW, KK, QX, SHs, RRs, Nat.reduceAdd, Nat.reduceMul, Nat.reduceLeDiff, Nat.reduceEqDiff, List.length_cons, List.length_nil, decide_true, decide_false, Bool.true_and, Bool.and_true, Bool.false_and, Bool.and_false, false_and, and_false, Bool.false_eq_true, Bool.true_eq_false, reduceCtorEq, eq_self, if_true, if_false, true_and, and_true, not_true_eq_false, not_false_eq_true, if_pos, if_neg, z_ite_not, false_or, or_false, true_or, or_true, SWs, swk_0, swk_1, r_isIn, k9, k8, z3, z4, e1]
  · simp (disch := first | omega | assumption | exact rfl) only [U_171_0, U_171_2, U_171_3, XX, QQ, WW, KK, QX, SHs, RRs, Nat.reduceAdd, Nat.reduceMul, Nat.reduceLeDiff, Nat.reduceEqDiff, List.length_cons, List.length_nil, decide_true, decide_false, Bool.true_and, Bool.and_true, Bool.false_and, Bool.and_false, false_and, and_false, Bool.false_eq_true, Bool.true_eq_false, reduceCtorEq, eq_self, if_true, if_false, true_and, and_true, not_true_eq_false, not_false_eq_true, if_pos, if_neg, z_ite_not, false_or, or_false, true_or, or_true, SWs, swk_0, swk_1, r_isIn, k9, k8, z3, e1]
theorem rs_needY {k c : Nat} (hd : 15 ≤ d) (h : RQs I tp tl m) (hk : psK tp tl m = k) (h0 : k ≠ 0) (hc : rtk true k = c) : ∃ I', callF X d 170 [.ref 177, .int (nI c)] (mk I J) = some (some (.int (nI 1)), mk I' J) ∧ RFr I I' ∧ RQs I' tp tl (m + 1) := by
  obtain ⟨d, rfl⟩ : ∃ d', d = d' + 1 := ⟨d - 1, by omega⟩
  obtain ⟨k5, k6, k7⟩ := RQs_k h
  have hm := psK_lt h.2.2.2 (by omega)
  have k9 : I 177 14 = nI c := by rw [k5, hk, hc]
  obtain ⟨I2, e2, f2, s2⟩ := rs_nx (X := X) (d := d) (J := J) (by omega) h hm
  refine ⟨I2, ?_, f2, s2⟩
  refine callF_of (by decide) (Nat.le_of_ble_eq_true rfl) ?_
  show Ev X d 170 0 [.ref 177, .int (nI c)] [] ( mk I J) _
  simp (disch := first | omega | assumption | exact rfl) only [U_170_0, U_170_2, XX, QQ, WW, KK, QX, SHs, RRs, Nat.reduceAdd, Nat.reduceMul, Nat.reduceLeDiff, Nat.reduceEqDiff, List.length_cons, List.length_nil, decide_true, decide_false, Bool.true_and, Bool.and_true, Bool.false_and, Bool.and_false, false_and, and_false, Bool.false_eq_true, Bool.true_eq_false, reduceCtorEq, eq_self, if_true, if_false, true_and, and_true, not_true_eq_false, not_false_eq_true, if_pos, if_neg, z_ite_not, false_or, or_false, true_or, or_true, SWs, swk_0, swk_1, k9, e2]
theorem rs_needF {c : Nat} (hd : 15 ≤ d) (h : RQs I tp tl m) (hk : rtk true (psK tp tl m) ≠ c) (hc : c < 400) : ∃ I', callF X d 170 [.ref 177, .int (nI c)] (mk I J) = some (some (.int (nI 0)), mk I' J) ∧ RFl I I' 1 (tpo tp tl m) := by
  obtain ⟨d, rfl⟩ : ∃ d', d = d' + 1 := ⟨d - 1, by omega⟩
  obtain ⟨k5, k6, k7⟩ := RQs_k h
  have kb := psK_b (tp := tp) (tl := tl) (m := m)
  have g2 := rs_1 _ kb
  obtain ⟨I1, e1, f1⟩ := r_bad (X := X) (d := d) (I := I) (J := J) (k := 1) (p := tpo tp tl m) (by omega) k6
  refine ⟨I1, ?_, f1⟩
  refine callF_of (by decide) (Nat.le_of_ble_eq_true rfl) ?_
  show Ev X d 170 0 [.ref 177, .int (nI c)] [] ( mk I J) _
  have g3 := g2.2.2.2.2.2
  simp (disch := first | omega | assumption | exact rfl) only [U_170_0, U_170_1, XX, QQ, WW, KK, QX, SHs, RRs, Nat.reduceAdd, Nat.reduceMul, Nat.reduceLeDiff, Nat.reduceEqDiff, List.length_cons, List.length_nil, decide_true, decide_false, Bool.true_and, Bool.and_true, Bool.false_and, Bool.and_false, false_and, and_false, Bool.false_eq_true, Bool.true_eq_false, reduceCtorEq, eq_self, if_true, if_false, true_and, and_true, not_true_eq_false, not_false_eq_true, if_pos, if_neg, z_ite_not, false_or, or_false, true_or, or_true, SWs, swk_0, swk_1, k5, hk, e1]
theorem cs_numY {a b : Nat} (hd : 2 ≤ d) (h : CQs I tp tl m) (k2 : psK tp tl m = 2) (ha : a ≤ psV tp tl m) (hb : psV tp tl m ≤ b) (hb2 : b ≤ 9999) : ∃ I', callF X d 53 [.ref 124, .int (nI a), .int (nI b)] (mk I J) = some (some (.int (nI (psV tp tl m))), mk I' J) ∧ CFr I I' ∧ CQs I' tp tl (m + 1) := by
  obtain ⟨d, rfl⟩ : ∃ d', d = d' + 1 := ⟨d - 1, by omega⟩
  obtain ⟨k5, k6, k7⟩ := CQs_k h
  have hm := psK_lt h.2.2.2.2 (by rw [k2]; decide)
  obtain ⟨I2, e2, f2, s2⟩ := cs_nx (X := X) (d := d) (J := J) (by omega) h hm
  refine ⟨I2, ?_, f2, s2⟩
  refine callF_of (by decide) (Nat.le_of_ble_eq_true rfl) ?_
  show Ev X d 53 0 [.ref 124, .int (nI a), .int (nI b), .retAddr 0] [] ( mk I J) _
  simp (disch := first | omega | assumption | exact rfl) only [U_53_0, U_53_2, U_53_3, U_53_5, XX, QQ, WW, KK, QX, SHs, RRs, Nat.reduceAdd, Nat.reduceMul, Nat.reduceLeDiff, Nat.reduceEqDiff, List.length_cons, List.length_nil, decide_true, decide_false, Bool.true_and, Bool.and_true, Bool.false_and, Bool.and_false, false_and, and_false, Bool.false_eq_true, Bool.true_eq_false, reduceCtorEq, eq_self, if_true, if_false, true_and, and_true, not_true_eq_false, not_false_eq_true, if_pos, if_neg, z_ite_not, false_or, or_false, true_or, or_true, SWs, swk_0, swk_1, k5, k7, k2, ha, hb, e2]
theorem cs_numF {a b : Nat} (hd : 2 ≤ d) (h : CQs I tp tl m) (k2 : psK tp tl m ≠ 2) : ∃ I', callF X d 53 [.ref 124, .int (nI a), .int (nI b)] (mk I J) = some (some (.int (-1)), mk I' J) ∧ CFl I I' 1 (tpo tp tl m) := by
  obtain ⟨d, rfl⟩ : ∃ d', d = d' + 1 := ⟨d - 1, by omega⟩
  obtain ⟨k5, k6, k7⟩ := CQs_k h
  have kb := psK_b (tp := tp) (tl := tl) (m := m)
  obtain ⟨I1, e1, f1⟩ := c_fl (X := X) (d := d) (I := I) (J := J) (k := 1) (p := tpo tp tl m) (by omega)
  refine ⟨I1, ?_, f1⟩
  refine callF_of (by decide) (Nat.le_of_ble_eq_true rfl) ?_
  show Ev X d 53 0 [.ref 124, .int (nI a), .int (nI b), .retAddr 0] [] ( mk I J) _
  simp (disch := first | omega | assumption | exact rfl) only [U_53_0, U_53_1, XX, QQ, WW, KK, QX, SHs, RRs, Nat.reduceAdd, Nat.reduceMul, Nat.reduceLeDiff, Nat.reduceEqDiff, List.length_cons, List.length_nil, decide_true, decide_false, Bool.true_and, Bool.and_true, Bool.false_and, Bool.and_false, false_and, and_false, Bool.false_eq_true, Bool.true_eq_false, reduceCtorEq, eq_self, if_true, if_false, true_and, and_true, not_true_eq_false, not_false_eq_true, if_pos, if_neg, z_ite_not, false_or, or_false, true_or, or_true, SWs, swk_0, swk_1, k5, k6, k7, k2, e1]
theorem cs_numZ {a b : Nat} (hd : 2 ≤ d) (h : CQs I tp tl m) (k2 : psK tp tl m = 2) (ha : a ≤ 9999) (hb : b ≤ 9999) (hz : ¬ (a ≤ psV tp tl m ∧ psV tp tl m ≤ b)) : ∃ I', callF X d 53 [.ref 124, .int (nI a), .int (nI b)] (mk I J) = some (some (.int (-1)), mk I' J) ∧ CFl I I' 2 (tpo tp tl m) := by
  obtain ⟨d, rfl⟩ : ∃ d', d = d' + 1 := ⟨d - 1, by omega⟩
  obtain ⟨k5, k6, k7⟩ := CQs_k h
  have vb := psV_b (tp := tp) (tl := tl) (m := m)
  obtain ⟨I1, e1, f1⟩ := c_fl (X := X) (d := d) (I := I) (J := J) (k := 2) (p := tpo tp tl m) (by omega)
  refine ⟨I1, ?_, f1⟩
  refine callF_of (by decide) (Nat.le_of_ble_eq_true rfl) ?_
  show Ev X d 53 0 [.ref 124, .int (nI a), .int (nI b), .retAddr 0] [] ( mk I J) _
  by_cases z3 : a ≤ psV tp tl m
  · have z4 : ¬ psV tp tl m ≤ b := fun z => hz ⟨z3, z⟩
    have z5 : ¬ psV tp tl m < a := by omega
    simp (disch := first | omega | assumption | exact rfl) only [U_53_0, U_53_2, U_53_3, U_53_4, XX, QQ, WW, KK, QX, SHs, RRs, Nat.reduceAdd, Nat.reduceMul, Nat.reduceLeDiff, Nat.reduceEqDiff, List.length_cons, List.length_nil, decide_true, decide_false, Bool.true_and, Bool.and_true, Bool.false_and, Bool.and_false, false_and, and_false, Bool.false_eq_true, Bool.true_eq_false, reduceCtorEq, eq_self, if_true, if_false, true_and, and_true, not_true_eq_false, not_false_eq_true, if_pos, if_neg, z_ite_not, false_or, or_false, true_or, or_true, SWs, swk_0, swk_1, k5, k6, k7, k2, z4, z5, e1]
  · have z5 : psV tp tl m < a := by omega
    simp (disch := first | omega | assumption | exact rfl) only [U_53_0, U_53_2, U_53_4, XX, QQ, WW, KK, QX, SHs, RRs, Nat.reduceAdd, Nat.reduceMul, Nat.reduceLeDiff, Nat.reduceEqDiff, List.length_cons, List.length_nil, decide_true, decide_false, Bool.true_and, Bool.and_true, Bool.false_and, Bool.and_false, false_and, and_false, Bool.false_eq_true, Bool.true_eq_false, reduceCtorEq, eq_self, if_true, if_false, true_and, and_true, not_true_eq_false, not_false_eq_true, if_pos, if_neg, z_ite_not, false_or, or_false, true_or, or_true, SWs, swk_0, swk_1, k5, k6, k7, k2, z5, e1]
end SHT
