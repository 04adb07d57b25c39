/-! ===== text: the class ===== -/
theorem c_54F {X : Nat × (Nat → Int32)} {d : Nat} {I : Nat → Nat → Int32} {J : Nat → Nat → Int64} {tp : Nat → Nat} {tl k p : Nat} (hd : 13 ≤ d) (hT : TPc I tp tl) (h : CTf X tp tl 0 0 0 k p) : ∃ I' J', callF X d 54 [.ref 124, .ref 123, .int (nI tl)] (mk I J) = some (some (.int (nI 0)), mk I' J') ∧ CFl I I' k p ∧ ∀ a, a ≠ 124 → J' a = J a := by
  obtain ⟨d, rfl⟩ : ∃ d', d = d' + 1 := ⟨d - 1, by omega⟩
  obtain ⟨I1, e1, a3, aR, aC, f1⟩ := c_cut (X := X) (d := d) (J := J) (by omega) hT
  obtain ⟨I2, J2, f2, g2, E⟩ := h d I1 (va_up J 124 (va_up (J 124) 3 (lN 0))) (.ref 123) (nI tl) (by omega) ⟨hT.1, a3, aR, aC, Nat.zero_le _⟩ (by rw [vu_eq, vu_eq])
  refine ⟨I2, J2, ?_, ⟨fun a ha => (f2.1 a ha).trans (f1 a (by omega)), f2.2⟩, fun a ha => (g2 a ha).trans (vu_ne ha)⟩
  refine callF_of (by decide) (Nat.le_of_ble_eq_true rfl) ?_
  show Ev X d 54 0 [.ref 124, .ref 123, .int (nI tl), .retAddr 0] [] ( mk I J) _
  simp (disch := first | omega | assumption | exact rfl) only [U_54_0, XX, QQ, WW, KK, QX, SHs, RRs, Nat.reduceAdd, Nat.reduceMul, Nat.reduceLeDiff, Nat.reduceEqDiff, List.length_cons, List.length_nil, decide_true, decide_false, Bool.true_and, Bool.and_true, Bool.false_and, Bool.and_false, false_and, and_false, Bool.false_eq_true, Bool.true_eq_false, reduceCtorEq, eq_self, if_true, if_false, true_and, and_true, not_true_eq_false, not_false_eq_true, if_pos, if_neg, z_ite_not, false_or, or_false, true_or, or_true, SWs, swk_0, swk_1, e1]
  exact E
theorem c_54T {X : Nat × (Nat → Int32)} {d : Nat} {I : Nat → Nat → Int32} {J : Nat → Nat → Int64} {tp : Nat → Nat} {tl F : Nat} (hd : 13 ≤ d) (hT : TPc I tp tl) (h : CTt X tp tl 0 0 0 F) : ∃ I' J', callF X d 54 [.ref 124, .ref 123, .int (nI tl)] (mk I J) = some (some (.int (nI 1)), mk I' J') ∧ CFq I I' ∧ (∀ a, a ≠ 124 → J' a = J a) ∧ J' 124 3 = lN F := by
  obtain ⟨d, rfl⟩ : ∃ d', d = d' + 1 := ⟨d - 1, by omega⟩
  obtain ⟨I1, e1, a3, aR, aC, f1⟩ := c_cut (X := X) (d := d) (J := J) (by omega) hT
  obtain ⟨I2, J2, f2, g2, j2, E⟩ := h d I1 (va_up J 124 (va_up (J 124) 3 (lN 0))) (.ref 123) (nI tl) (by omega) ⟨hT.1, a3, aR, aC, Nat.zero_le _⟩ (by rw [vu_eq, vu_eq])
  refine ⟨I2, J2, ?_, ⟨fun a ha => (f2.1 a (by omega) (by omega) (by omega)).trans (f1 a (by omega)), (f2.1 124 (by decide) (by decide) (by decide)).trans (f1 124 (by omega))⟩, fun a ha => (g2 a ha).trans (vu_ne ha), j2⟩
  refine callF_of (by decide) (Nat.le_of_ble_eq_true rfl) ?_
  show Ev X d 54 0 [.ref 124, .ref 123, .int (nI tl), .retAddr 0] [] ( mk I J) _
  simp (disch := first | omega | assumption | exact rfl) only [U_54_0, XX, QQ, WW, KK, QX, SHs, RRs, Nat.reduceAdd, Nat.reduceMul, Nat.reduceLeDiff, Nat.reduceEqDiff, List.length_cons, List.length_nil, decide_true, decide_false, Bool.true_and, Bool.and_true, Bool.false_and, Bool.and_false, false_and, and_false, Bool.false_eq_true, Bool.true_eq_false, reduceCtorEq, eq_self, if_true, if_false, true_and, and_true, not_true_eq_false, not_false_eq_true, if_pos, if_neg, z_ite_not, false_or, or_false, true_or, or_true, SWs, swk_0, swk_1, e1]
  exact E
theorem c_clr {X : Nat × (Nat → Int32)} {d : Nat} {I : Nat → Nat → Int32} {J : Nat → Nat → Int64} (hd : 1 ≤ d) : callF X d 67 [.ref 129] (mk I J) = some (none, mk (va_up I 129 (va_up (va_up (I 129) 0 (nI 0)) 5 (nI 0))) J) := by
  refine callF_at (by omega) (by decide) (Nat.le_of_ble_eq_true rfl) (fun d _ => ?_)
  show Ev X d 67 0 [.ref 129] [] ( mk I J) _
  simp (disch := first | omega | assumption | exact rfl) only [U_67_0, XX, QQ, WW, KK, QX, SHs, RRs, Nat.reduceAdd, Nat.reduceMul, Nat.reduceLeDiff, Nat.reduceEqDiff, List.length_cons, List.length_nil, decide_true, decide_false, Bool.true_and, Bool.and_true, Bool.false_and, Bool.and_false, false_and, and_false, Bool.false_eq_true, Bool.true_eq_false, reduceCtorEq, eq_self, if_true, if_false, true_and, and_true, not_true_eq_false, not_false_eq_true, if_pos, if_neg, z_ite_not, false_or, or_false, true_or, or_true, SWs, swk_0, swk_1]
theorem CPs_clr {I : Nat → Nat → Int32} {tp : Nat → Nat} {tl : Nat} (h1 : tl ≤ 400) (a3 : I 125 3 = nI (tkT tp tl + 1)) (aR : ROWc I tp tl (tkT tp tl + 1)) (aC : CURc I tp tl 0) : CPs (va_up I 129 (va_up (va_up (I 129) 0 (nI 0)) 5 (nI 0))) tp tl 0 (segC (fltS [])) ∧ CDr (va_up I 129 (va_up (va_up (I 129) 0 (nI 0)) 5 (nI 0))) [] := by
  have e : ∀ a, a ≠ 129 → va_up I 129 (va_up (va_up (I 129) 0 (nI 0)) 5 (nI 0)) a = I a := fun a ha => vu_ne ha
  refine ⟨⟨h1, ?_, fun j hj => ?_, ?_, Nat.zero_le _, ?_, fun j hj => absurd hj (Nat.not_lt_zero j), Nat.zero_le _⟩, ?_, fun i hi => absurd hi (Nat.not_lt_zero i)⟩
  · rw [e _ (by decide)]; exact a3
  · rw [e _ (by decide), e _ (by decide), e _ (by decide)]; exact aR j hj
  · unfold CURc; rw [e _ (by decide)]; exact aC
  · rw [vu_eq, vu_eq]; rfl
  · rw [vu_eq, vu_ne (by decide), vu_eq]; rfl
theorem c_58F {X : Nat × (Nat → Int32)} {d : Nat} {I : Nat → Nat → Int32} {J : Nat → Nat → Int64} {tp : Nat → Nat} {tl k p : Nat} (hd : 42 ≤ d) (hT : TPc I tp tl) (h : CRf X tp tl 0 0 k p) : ∃ I', callF X d 58 [.ref 124, .ref 123, .int (nI tl)] (mk I J) = some (some (.int (nI 0)), mk I' J) ∧ CFl I I' k p := by
  obtain ⟨d, rfl⟩ : ∃ d', d = d' + 1 := ⟨d - 1, by omega⟩
  obtain ⟨I1, e1, a3, aR, aC, f1⟩ := c_cut (X := X) (d := d) (J := J) (by omega) hT
  obtain ⟨s1, s2⟩ := CPs_clr hT.1 a3 aR aC
  obtain ⟨I2, f2, E⟩ := h d _ J [] (.ref 123) (nI tl) (by omega) rfl s1 (Nat.zero_le _) s2
  refine ⟨I2, ?_, ⟨fun a ha => (f2.1 a ha).trans ((vu_ne (by omega)).trans (f1 a (by omega))), f2.2⟩⟩
  have e2 := c_clr (X := X) (d := d) (I := I1) (J := J) (by omega)
  refine callF_of (by decide) (Nat.le_of_ble_eq_true rfl) ?_
  show Ev X d 58 0 [.ref 124, .ref 123, .int (nI tl), .retAddr 0] [] ( mk I J) _
  simp (disch := first | omega | assumption | exact rfl) only [U_58_0, XX, QQ, WW, KK, QX, SHs, RRs, Nat.reduceAdd, Nat.reduceMul, Nat.reduceLeDiff, Nat.reduceEqDiff, List.length_cons, List.length_nil, decide_true, decide_false, Bool.true_and, Bool.and_true, Bool.false_and, Bool.and_false, false_and, and_false, Bool.false_eq_true, Bool.true_eq_false, reduceCtorEq, eq_self, if_true, if_false, true_and, and_true, not_true_eq_false, not_false_eq_true, if_pos, if_neg, z_ite_not, false_or, or_false, true_or, or_true, SWs, swk_0, swk_1, e1, e2]
  exact E
theorem c_58T {X : Nat × (Nat → Int32)} {d : Nat} {I : Nat → Nat → Int32} {J : Nat → Nat → Int64} {tp : Nat → Nat} {tl m' : Nat} {E : LnL} (hd : 42 ≤ d) (hT : TPc I tp tl) (h : CRt X tp tl 0 0 m' E) : ∃ I', callF X d 58 [.ref 124, .ref 123, .int (nI tl)] (mk I J) = some (some (.int (nI 1)), mk I' J) ∧ CFq I I' ∧ CPs I' tp tl m' (segC (fltS E)) ∧ CDr I' E := by
  obtain ⟨d, rfl⟩ : ∃ d', d = d' + 1 := ⟨d - 1, by omega⟩
  obtain ⟨I1, e1, a3, aR, aC, f1⟩ := c_cut (X := X) (d := d) (J := J) (by omega) hT
  obtain ⟨s1, s2⟩ := CPs_clr hT.1 a3 aR aC
  obtain ⟨I2, f2, p2, q2, E⟩ := h d _ J [] (.ref 123) (nI tl) (by omega) rfl s1 (Nat.zero_le _) s2
  refine ⟨I2, ?_, ⟨fun a ha => (f2.1 a ha).trans ((vu_ne (by omega)).trans (f1 a (by omega))), f2.2.trans ((vu_ne (by decide)).trans (f1 124 (by omega)))⟩, p2, q2⟩
  have e2 := c_clr (X := X) (d := d) (I := I1) (J := J) (by omega)
  refine callF_of (by decide) (Nat.le_of_ble_eq_true rfl) ?_
  show Ev X d 58 0 [.ref 124, .ref 123, .int (nI tl), .retAddr 0] [] ( mk I J) _
  simp (disch := first | omega | assumption | exact rfl) only [U_58_0, XX, QQ, WW, KK, QX, SHs, RRs, Nat.reduceAdd, Nat.reduceMul, Nat.reduceLeDiff, Nat.reduceEqDiff, List.length_cons, List.length_nil, decide_true, decide_false, Bool.true_and, Bool.and_true, Bool.false_and, Bool.and_false, false_and, and_false, Bool.false_eq_true, Bool.true_eq_false, reduceCtorEq, eq_self, if_true, if_false, true_and, and_true, not_true_eq_false, not_false_eq_true, if_pos, if_neg, z_ite_not, false_or, or_false, true_or, or_true, SWs, swk_0, swk_1, e1, e2]
  exact E
theorem c_forget {X : Nat × (Nat → Int32)} {d : Nat} {I : Nat → Nat → Int32} {J : Nat → Nat → Int64} (hd : 1 ≤ d) : callF X d 50 [.ref 124] (mk I J) = some (none, mk (va_up I 124 (va_up (va_up (I 124) 1 (nI 0)) 2 (-1))) J) := by
  refine callF_at (by omega) (by decide) (Nat.le_of_ble_eq_true rfl) (fun d _ => ?_)
  show Ev X d 50 0 [.ref 124] [] ( mk I J) _
  simp (disch := first | omega | assumption | exact rfl) only [U_50_0, XX, QQ, WW, KK, QX, SHs, RRs, Nat.reduceAdd, Nat.reduceMul, Nat.reduceLeDiff, Nat.reduceEqDiff, List.length_cons, List.length_nil, decide_true, decide_false, Bool.true_and, Bool.and_true, Bool.false_and, Bool.and_false, false_and, and_false, Bool.false_eq_true, Bool.true_eq_false, reduceCtorEq, eq_self, if_true, if_false, true_and, and_true, not_true_eq_false, not_false_eq_true, if_pos, if_neg, z_ite_not, false_or, or_false, true_or, or_true, SWs, swk_0, swk_1]
/-- what a text leaves as it was: the class -/
def CXf (I I' : Nat → Nat → Int32) : Prop := (∀ a, 1 ≤ a → a < 124 ∨ 136 < a → I' a = I a) ∧ (∀ k, k ≠ 4 → I' 0 k = I 0 k) ∧ I' 0 4 = nI 0
def tx0 (I : Nat → Nat → Int32) : Nat → Nat → Int32 := va_up (va_up I 0 (va_up (I 0) 4 (nI 0))) 124 (va_up (va_up (I 124) 1 (nI 0)) 2 (-1))
theorem tx0_f {I : Nat → Nat → Int32} : CXf I (tx0 I) ∧ tx0 I 124 1 = nI 0 ∧ tx0 I 124 2 = -1 ∧ tx0 I 123 = I 123 := by
  refine ⟨⟨fun a h1 h2 => ?_, fun k hk => ?_, ?_⟩, ?_, ?_, ?_⟩
  · show va_up (va_up I 0 _) 124 _ a = _; rw [vu_ne (by omega), vu_ne (by omega)]
  · show va_up (va_up I 0 _) 124 _ 0 k = _; rw [vu_ne (by decide), vu_eq, vu_ne hk]
  · show va_up (va_up I 0 _) 124 _ 0 4 = _; rw [vu_ne (by decide), vu_eq, vu_eq]
  · show va_up (va_up I 0 _) 124 _ 124 1 = _; rw [vu_eq, vu_ne (by decide), vu_eq]
  · show va_up (va_up I 0 _) 124 _ 124 2 = _; rw [vu_eq, vu_eq]
  · show va_up (va_up I 0 _) 124 _ 123 = _; rw [vu_ne (by decide), vu_ne (by decide)]
theorem CXf_l {I I' I'' : Nat → Nat → Int32} (h : CXf I I') (h2 : ∀ a, a < 124 ∨ 136 < a → I'' a = I' a) : CXf I I'' := ⟨fun a x y => (h2 a y).trans (h.1 a x y), fun k hk => by rw [h2 0 (by decide)]; exact h.2.1 k hk, by rw [h2 0 (by decide)]; exact h.2.2⟩
theorem tx0_T {I : Nat → Nat → Int32} {tp : Nat → Nat} {tl : Nat} (h : TPc I tp tl) : TPc (tx0 I) tp tl := ⟨h.1, fun i hi => by rw [tx0_f.2.2.2]; exact h.2 i hi⟩
theorem c_fg {X : Nat × (Nat → Int32)} {d : Nat} {I : Nat → Nat → Int32} {J : Nat → Nat → Int64} (hd : 1 ≤ d) : callF X d 50 [.ref 124] (mk (va_up I 0 (va_up (I 0) 4 (nI 0))) J) = some (none, mk (tx0 I) J) := by
  rw [c_forget hd, vu_ne (by decide)]; rfl
section TXC
variable {X : Nat × (Nat → Int32)} {d : Nat} {I : Nat → Nat → Int32} {J : Nat → Nat → Int64} {tp : Nat → Nat} {tl k : Nat}
theorem c_tx0 {v : Int32} (hd : 2 ≤ d) (o1 : (decide (0 ≤ v) && decide (v < nI 9)) = false) : callF X d 117 [.ref 0, .int v] (mk I J) = some (some (.int (-1)), mk (tx0 I) J) := by
  obtain ⟨d, rfl⟩ : ∃ d', d = d' + 1 := ⟨d - 1, by omega⟩
  have e1 := c_fg (X := X) (d := d) (I := I) (J := J) (by omega)
  refine callF_of (by decide) (Nat.le_of_ble_eq_true rfl) ?_
  show Ev X d 117 0 [.ref 0, .int v, .retAddr 0] [] ( mk I J) _
  simp (disch := first | omega | assumption | exact rfl) only [U_117_0, U_117_1, XX, QQ, WW, KK, QX, SHs, RRs, Nat.reduceAdd, Nat.reduceMul, Nat.reduceLeDiff, Nat.reduceEqDiff, List.length_cons, List.length_nil, decide_true, decide_false, Bool.true_and, Bool.and_true, Bool.false_and, Bool.and_false, false_and, and_false, Bool.false_eq_true, Bool.true_eq_false, reduceCtorEq, eq_self, if_true, if_false, true_and, and_true, not_true_eq_false, not_false_eq_true, if_pos, if_neg, z_ite_not, false_or, or_false, true_or, or_true, SWs, swk_0, swk_1, e1, s_isOf, o1]
theorem c_txF {kk p : Nat} (hd : 14 ≤ d) (hk : k < 6) (h4 : I 0 4 = nI tl) (hT : TPc I tp tl) (h : CTf X tp tl 0 0 0 kk p) : ∃ I' J', callF X d 117 [.ref 0, .int (nI k)] (mk I J) = some (some (.int (-1)), mk I' J') ∧ CXf I I' ∧ I' 124 1 = nI kk ∧ I' 124 2 = nI p ∧ ∀ a, a ≠ 124 → J' a = J a := by
  obtain ⟨d, rfl⟩ : ∃ d', d = d' + 1 := ⟨d - 1, by omega⟩
  have e1 := c_fg (X := X) (d := d) (I := I) (J := J) (by omega)
  obtain ⟨I2, J2, e2, f2, g2⟩ := c_54F (X := X) (d := d) (J := J) (by omega) (tx0_T hT) h
  refine ⟨I2, J2, ?_, CXf_l tx0_f.1 f2.1, f2.2.1, f2.2.2, g2⟩
  have z9 : k < 9 := by omega
  refine callF_of (by decide) (Nat.le_of_ble_eq_true rfl) ?_
  show Ev X d 117 0 [.ref 0, .int (nI k), .retAddr 0] [] ( mk I J) _
  simp (disch := first | omega | assumption | exact rfl) only [U_117_0, U_117_2, U_117_3, U_117_4, XX, QQ, WW, KK, QX, SHs, RRs, Nat.reduceAdd, Nat.reduceMul, Nat.reduceLeDiff, Nat.reduceEqDiff, List.length_cons, List.length_nil, decide_true, decide_false, Bool.true_and, Bool.and_true, Bool.false_and, Bool.and_false, false_and, and_false, Bool.false_eq_true, Bool.true_eq_false, reduceCtorEq, eq_self, if_true, if_false, true_and, and_true, not_true_eq_false, not_false_eq_true, if_pos, if_neg, z_ite_not, false_or, or_false, true_or, or_true, SWs, swk_0, swk_1, h4, e1, s_isOf, e2, hk, z9]
theorem c_txT {F : Nat} (hd : 14 ≤ d) (hk : k < 6) (h4 : I 0 4 = nI tl) (hT : TPc I tp tl) (hF : F < 2 ^ 64) (h : CTt X tp tl 0 0 0 F) : ∃ I' J', callF X d 117 [.ref 0, .int (nI k)] (mk I J) = some (some (.int (nI (pop F))), mk I' J') ∧ CXf I I' ∧ I' 124 1 = nI 0 ∧ I' 124 2 = -1 ∧ (∀ a, a ≠ 124 → a ≠ 4 → J' a = J a) ∧ J' 4 = va_up (J 4) k (lN F) := by
  obtain ⟨d, rfl⟩ : ∃ d', d = d' + 1 := ⟨d - 1, by omega⟩
  have e1 := c_fg (X := X) (d := d) (I := I) (J := J) (by omega)
  obtain ⟨I2, J2, e2, f2, g2, j2⟩ := c_54T (X := X) (d := d) (J := J) (by omega) (tx0_T hT) h
  refine ⟨I2, va_up J2 4 (va_up (J2 4) k (lN F)), ?_, CXf_l tx0_f.1 f2.1, ?_, ?_, fun a h1 h2 => (vu_ne h2).trans (g2 a h1), ?_⟩
  · have z9 : k < 9 := by omega
    have bc := s_bcL (X := X) (d := d) (M := mk I2 (va_up J2 4 (va_up (J2 4) k (lN F)))) (by omega) hF
    refine callF_of (by decide) (Nat.le_of_ble_eq_true rfl) ?_
    show Ev X d 117 0 [.ref 0, .int (nI k), .retAddr 0] [] ( mk I J) _
    simp (disch := first | omega | assumption | exact rfl) only [U_117_0, U_117_2, U_117_3, U_117_5, XX, QQ, WW, KK, QX, SHs, RRs, Nat.reduceAdd, Nat.reduceMul, Nat.reduceLeDiff, Nat.reduceEqDiff, List.length_cons, List.length_nil, decide_true, decide_false, Bool.true_and, Bool.and_true, Bool.false_and, Bool.and_false, false_and, and_false, Bool.false_eq_true, Bool.true_eq_false, reduceCtorEq, eq_self, if_true, if_false, true_and, and_true, not_true_eq_false, not_false_eq_true, if_pos, if_neg, z_ite_not, false_or, or_false, true_or, or_true, SWs, swk_0, swk_1, h4, e1, s_isOf, e2, hk, z9, j2, bc]
  · rw [f2.2]; exact tx0_f.2.1
  · rw [f2.2]; exact tx0_f.2.2.1
  · rw [vu_eq, g2 4 (by decide)]
theorem c_txF2 {kk p : Nat} (hd : 43 ≤ d) (hk : 6 ≤ k) (hk9 : k < 9) (h4 : I 0 4 = nI tl) (hT : TPc I tp tl) (h : CRf X tp tl 0 0 kk p) : ∃ I', callF X d 117 [.ref 0, .int (nI k)] (mk I J) = some (some (.int (-1)), mk I' J) ∧ CXf I I' ∧ I' 124 1 = nI kk ∧ I' 124 2 = nI p := by
  obtain ⟨d, rfl⟩ : ∃ d', d = d' + 1 := ⟨d - 1, by omega⟩
  have e1 := c_fg (X := X) (d := d) (I := I) (J := J) (by omega)
  obtain ⟨I2, e2, f2⟩ := c_58F (X := X) (d := d) (J := J) (by omega) (tx0_T hT) h
  refine ⟨I2, ?_, CXf_l tx0_f.1 f2.1, f2.2.1, f2.2.2⟩
  have z6 : ¬ k < 6 := by omega
  refine callF_of (by decide) (Nat.le_of_ble_eq_true rfl) ?_
  show Ev X d 117 0 [.ref 0, .int (nI k), .retAddr 0] [] ( mk I J) _
  simp (disch := first | omega | assumption | exact rfl) only [U_117_0, U_117_2, U_117_6, U_117_7, XX, QQ, WW, KK, QX, SHs, RRs, Nat.reduceAdd, Nat.reduceMul, Nat.reduceLeDiff, Nat.reduceEqDiff, List.length_cons, List.length_nil, decide_true, decide_false, Bool.true_and, Bool.and_true, Bool.false_and, Bool.and_false, false_and, and_false, Bool.false_eq_true, Bool.true_eq_false, reduceCtorEq, eq_self, if_true, if_false, true_and, and_true, not_true_eq_false, not_false_eq_true, if_pos, if_neg, z_ite_not, false_or, or_false, true_or, or_true, SWs, swk_0, swk_1, h4, e1, s_isOf, e2, z6, hk9]
theorem c_txT2 {m' j : Nat} {E : LnL} (hd : 43 ≤ d) (ej : k = j + 6) (hj : j < 3) (h4 : I 0 4 = nI tl) (hT : TPc I tp tl) (h : CRt X tp tl 0 0 m' E) : ∃ I1 I', callF X d 117 [.ref 0, .int (nI k)] (mk I J) = some (some (.int (nI E.length)), mk I' J) ∧ CXf I I1 ∧ I1 124 1 = nI 0 ∧ I1 124 2 = -1 ∧ CPs I1 tp tl m' (segC (fltS E)) ∧ CDr I1 E ∧ I' (38 + 8 * j) 0 = I1 129 0 ∧ (∀ i, i < 16 → I' (38 + 8 * j + 1) i = I1 130 i ∧ I' (38 + 8 * j + 2) i = I1 131 i ∧ I' (38 + 8 * j + 3) i = I1 132 i ∧ I' (38 + 8 * j + 4) i = I1 133 i) ∧ (∀ i, i < 400 → I' (38 + 8 * j + 5) i = I1 134 i) ∧ (∀ x, x < 38 + 8 * j ∨ 38 + 8 * j + 5 < x → I' x = I1 x) := by
  obtain ⟨d, rfl⟩ : ∃ d', d = d' + 1 := ⟨d - 1, by omega⟩
  have e1 := c_fg (X := X) (d := d) (I := I) (J := J) (by omega)
  obtain ⟨I2, e2, f2, p2, q2⟩ := c_58T (X := X) (d := d) (J := J) (by omega) (tx0_T hT) h
  obtain ⟨I3, e3, r0, r5, ri, r4, rf⟩ := c_copyR (X := X) (d := d) (I := I2) (J := J) (R := 38 + 8 * j) (Q := 129) (by omega) (RA_0 hj) RA_129 (by omega)
  refine ⟨I2, I3, ?_, CXf_l tx0_f.1 f2.1, by rw [f2.2]; exact tx0_f.2.1, by rw [f2.2]; exact tx0_f.2.2.1, p2, q2, r0, ri, r4, rf⟩
  have l0 : I3 129 0 = nI E.length := by rw [rf 129 (by omega)]; exact q2.1
  have sh0 := (RA_0 hj).1
  subst ej
  have z6 : ¬ j + 6 < 6 := by omega
  have z9 : j + 6 < 9 := by omega
  refine callF_of (by decide) (Nat.le_of_ble_eq_true rfl) ?_
  show Ev X d 117 0 [.ref 0, .int (nI (j + 6)), .retAddr 0] [] ( mk I J) _
  simp (disch := first | omega | assumption | exact rfl) only [U_117_0, U_117_2, U_117_6, U_117_8, XX, QQ, WW, KK, QX, SHs, RRs, Nat.reduceAdd, Nat.reduceMul, Nat.reduceLeDiff, Nat.reduceEqDiff, List.length_cons, List.length_nil, decide_true, decide_false, Bool.true_and, Bool.and_true, Bool.false_and, Bool.and_false, false_and, and_false, Bool.false_eq_true, Bool.true_eq_false, reduceCtorEq, eq_self, if_true, if_false, true_and, and_true, not_true_eq_false, not_false_eq_true, if_pos, if_neg, z_ite_not, false_or, or_false, true_or, or_true, SWs, swk_0, swk_1, h4, e1, s_isOf, e2, z6, z9, Nat.add_sub_cancel, R6r, sh0, e3, l0]
end TXC
