/-! ===== a line of a rule: its way and its number ===== -/
def CFq (I I' : Nat → Nat → Int32) : Prop := (∀ a, a < 124 ∨ 136 < a → I' a = I a) ∧ I' 124 = I 124
def RFq (I I' : Nat → Nat → Int32) : Prop := (∀ a, a ≠ 177 → a ≠ 180 → a ≠ 181 → I' a = I a) ∧ ∀ k, k ≠ 11 → k ≠ 13 → k ≠ 14 → k ≠ 15 → k ≠ 16 → k ≠ 18 → k ≠ 20 → I' 177 k = I 177 k
def RFk (I I' : Nat → Nat → Int32) (k p : Nat) : Prop := (∀ a, a ≠ 177 → a ≠ 180 → a ≠ 181 → I' a = I a) ∧ (∀ k, k ≠ 11 → k ≠ 13 → k ≠ 14 → k ≠ 15 → k ≠ 16 → k ≠ 17 → k ≠ 18 → k ≠ 20 → I' 177 k = I 177 k) ∧ I' 177 17 = nI k ∧ I' 177 18 = nI p
theorem RFq_r {I I' : Nat → Nat → Int32} (h : RFr I I') : RFq I I' := ⟨fun a x _ z => h.1 a x z, h.2⟩
theorem RFk_l {I I' : Nat → Nat → Int32} {k p : Nat} (h : RFl I I' k p) : RFk I I' k p := ⟨fun a x _ z => h.1 a x z, h.2⟩
theorem RFq_t {I I' I'' : Nat → Nat → Int32} (h : RFq I I') (h2 : RFq I' I'') : RFq I I'' := ⟨fun a x y z => (h2.1 a x y z).trans (h.1 a x y z), fun k a b c d e f g => (h2.2 k a b c d e f g).trans (h.2 k a b c d e f g)⟩
theorem RFk_t {I I' I'' : Nat → Nat → Int32} {k p : Nat} (h : RFq I I') (h2 : RFk I' I'' k p) : RFk I I'' k p := ⟨fun a x y z => (h2.1 a x y z).trans (h.1 a x y z), fun k a b c d e _ f g => (h2.2.1 k a b c d e ‹_› f g).trans (h.2 k a b c d e f g), h2.2.2⟩
theorem RFq_180 {I : Nat → Nat → Int32} {g : Nat → Int32} : RFq I (va_up I 180 g) := ⟨fun a _ y _ => vu_ne y, fun k _ _ _ _ _ _ _ => by rw [vu_ne (by decide)]⟩
theorem CFq_r {I I' : Nat → Nat → Int32} (h : CFr I I') : CFq I I' := ⟨fun a ha => h.1 a (by omega) (by omega) (by omega), h.1 124 (by decide) (by decide) (by decide)⟩
theorem CFq_t {I I' I'' : Nat → Nat → Int32} (h : CFq I I') (h2 : CFq I' I'') : CFq I I'' := ⟨fun a ha => (h2.1 a ha).trans (h.1 a ha), h2.2.trans h.2⟩
theorem CFl_q {I I' I'' : Nat → Nat → Int32} {k p : Nat} (h : CFq I I') (h2 : CFl I' I'' k p) : CFl I I'' k p := ⟨fun a ha => (h2.1 a ha).trans (h.1 a ha), h2.2⟩
theorem neg260 : ∀ k, k < 260 → ¬ (0 : Int32) ≤ nI k - nI 260 := by decide +kernel
section LNH
variable {X : Nat × (Nat → Int32)} {tp : Nat → Nat} {tl m L : Nat}
def lnF (X : Nat × (Nat → Int32)) (tp : Nat → Nat) (tl m L k p : Nat) : Prop := (∀ (d : Nat) (I : Nat → Nat → Int32) (J : Nat → Nat → Int64) (W : List Int32), 3 ≤ d → CPs I tp tl m W → ∃ I', callF X d 59 [.ref 124, .int (nI L)] (mk I J) = some (some (.int (nI 0)), mk I' J) ∧ CFl I I' k p) ∧ ∀ (d : Nat) (I : Nat → Nat → Int32) (J : Nat → Nat → Int64) (Q : List (Nat × Nat)) (o : Nat), 16 ≤ d → RPs I tp tl m Q o → I 177 10 = nI L → ∃ I', callF X d 180 [.ref 177] (mk I J) = some (some (.int (nI 0)), mk I' J) ∧ RFk I I' k p
theorem lineH_F (hL : L ≤ 16) (kn : ¬ (260 ≤ psK tp tl m ∧ psK tp tl m < 267)) : lnF X tp tl m L 1 (tpo tp tl m) := by
  have kb := psK_b (tp := tp) (tl := tl) (m := m)
  refine ⟨fun d I J W hd h => ?_, fun d I J Q o hd h h10 => ?_⟩
  · obtain ⟨d, rfl⟩ : ∃ d', d = d' + 1 := ⟨d - 1, by omega⟩
    obtain ⟨k5, k6, k7⟩ := CPs_k h
    obtain ⟨I2, e2, f2⟩ := c_fl (X := X) (d := d) (I := I) (J := J) (k := 1) (p := tpo tp tl m) (by omega)
    refine ⟨I2, ?_, f2⟩
    refine callF_of (by decide) (Nat.le_of_ble_eq_true rfl) ?_
    show Ev X d 59 0 [.ref 124, .int (nI L), .retAddr 0, .retAddr 0] [] ( mk I J) _
    by_cases z : psK tp tl m < 260
    · have z1 := neg260 _ z
      simp (disch := first | omega | assumption | exact rfl) only [U_59_0, U_59_1, XX, QQ, WW, KK, QX, SHs, RRs, Nat.reduceAdd, Nat.reduceMul, Nat.reduceLeDiff, Nat.reduceEqDiff, List.length_cons, List.length_nil, decide_true, decide_false, Bool.true_and, Bool.and_true, Bool.false_and, Bool.and_false, false_and, and_false, Bool.false_eq_true, Bool.true_eq_false, reduceCtorEq, eq_self, if_true, if_false, true_and, and_true, not_true_eq_false, not_false_eq_true, if_pos, if_neg, z_ite_not, false_or, or_false, true_or, or_true, SWs, swk_0, swk_1, k5, k6, s_isOf, z1, e2]
    · have z1 : ¬ psK tp tl m - 260 < 7 := by omega
      have z2 : 260 ≤ psK tp tl m := by omega
      simp (disch := first | omega | assumption | exact rfl) only [U_59_0, U_59_1, XX, QQ, WW, KK, QX, SHs, RRs, Nat.reduceAdd, Nat.reduceMul, Nat.reduceLeDiff, Nat.reduceEqDiff, List.length_cons, List.length_nil, decide_true, decide_false, Bool.true_and, Bool.and_true, Bool.false_and, Bool.and_false, false_and, and_false, Bool.false_eq_true, Bool.true_eq_false, reduceCtorEq, eq_self, if_true, if_false, true_and, and_true, not_true_eq_false, not_false_eq_true, if_pos, if_neg, z_ite_not, false_or, or_false, true_or, or_true, SWs, swk_0, swk_1, k5, k6, s_isOf, z1, e2]
  · obtain ⟨d, rfl⟩ : ∃ d', d = d' + 1 := ⟨d - 1, by omega⟩
    obtain ⟨k5, k6, k7⟩ := RPs_k h
    obtain ⟨I2, e2, f2⟩ := r_bad (X := X) (d := d) (I := I) (J := J) (k := 1) (p := tpo tp tl m) (by omega) k6
    refine ⟨I2, ?_, RFk_l f2⟩
    refine callF_of (by decide) (Nat.le_of_ble_eq_true rfl) ?_
    show Ev X d 180 0 [.ref 177, .retAddr 0] [] ( mk I J) _
    have g := rq_4 _ kb
    have g6 := g.2.2.2.2
    by_cases z3 : 20 ≤ rtk false (psK tp tl m)
    · have z4 : ¬ rtk false (psK tp tl m) ≤ 26 := fun z => kn (g.2.2.1.mp ⟨z3, z⟩)
      simp (disch := first | omega | assumption | exact rfl) only [U_180_0, U_180_1, XX, QQ, WW, KK, QX, SHs, RRs, Nat.reduceAdd, Nat.reduceMul, Nat.reduceLeDiff, Nat.reduceEqDiff, List.length_cons, List.length_nil, decide_true, decide_false, Bool.true_and, Bool.and_true, Bool.false_and, Bool.and_false, false_and, and_false, Bool.false_eq_true, Bool.true_eq_false, reduceCtorEq, eq_self, if_true, if_false, true_and, and_true, not_true_eq_false, not_false_eq_true, if_pos, if_neg, z_ite_not, false_or, or_false, true_or, or_true, SWs, swk_0, swk_1, r_isIn, k5, z3, z4, e2]
    · simp (disch := first | omega | assumption | exact rfl) only [U_180_0, U_180_1, XX, QQ, WW, KK, QX, SHs, RRs, Nat.reduceAdd, Nat.reduceMul, Nat.reduceLeDiff, Nat.reduceEqDiff, List.length_cons, List.length_nil, decide_true, decide_false, Bool.true_and, Bool.and_true, Bool.false_and, Bool.and_false, false_and, and_false, Bool.false_eq_true, Bool.true_eq_false, reduceCtorEq, eq_self, if_true, if_false, true_and, and_true, not_true_eq_false, not_false_eq_true, if_pos, if_neg, z_ite_not, false_or, or_false, true_or, or_true, SWs, swk_0, swk_1, r_isIn, k5, z3, e2]
theorem lineH_M (kn : 260 ≤ psK tp tl m ∧ psK tp tl m < 267) : lnF X tp tl m 16 3 (tpo tp tl m) := by
  have kb := psK_b (tp := tp) (tl := tl) (m := m)
  obtain ⟨w, ew⟩ : ∃ w, psK tp tl m = w + 260 := ⟨psK tp tl m - 260, by omega⟩
  have w7 : w < 7 := by omega
  refine ⟨fun d I J W hd h => ?_, fun d I J Q o hd h h10 => ?_⟩
  · obtain ⟨d, rfl⟩ : ∃ d', d = d' + 1 := ⟨d - 1, by omega⟩
    obtain ⟨k5, k6, k7⟩ := CPs_k h
    rw [ew] at k5
    obtain ⟨I2, e2, f2⟩ := c_fl (X := X) (d := d) (I := I) (J := J) (k := 3) (p := tpo tp tl m) (by omega)
    refine ⟨I2, ?_, f2⟩
    refine callF_of (by decide) (Nat.le_of_ble_eq_true rfl) ?_
    show Ev X d 59 0 [.ref 124, .int (nI 16), .retAddr 0, .retAddr 0] [] ( mk I J) _
    simp (disch := first | omega | assumption | exact rfl) only [U_59_0, U_59_2, U_59_3, XX, QQ, WW, KK, QX, SHs, RRs, Nat.reduceAdd, Nat.reduceMul, Nat.reduceLeDiff, Nat.reduceEqDiff, List.length_cons, List.length_nil, decide_true, decide_false, Bool.true_and, Bool.and_true, Bool.false_and, Bool.and_false, false_and, and_false, Bool.false_eq_true, Bool.true_eq_false, reduceCtorEq, eq_self, if_true, if_false, true_and, and_true, not_true_eq_false, not_false_eq_true, if_pos, if_neg, z_ite_not, false_or, or_false, true_or, or_true, SWs, swk_0, swk_1, k5, k6, s_isOf, Nat.add_sub_cancel, w7, e2]
  · obtain ⟨d, rfl⟩ : ∃ d', d = d' + 1 := ⟨d - 1, by omega⟩
    obtain ⟨k5, k6, k7⟩ := RPs_k h
    rw [(rq_4 _ kb).2.2.2.1 kn.1 kn.2, ew, show w + 260 - 240 = w + 20 by omega] at k5
    obtain ⟨I2, e2, f2⟩ := r_bad (X := X) (d := d) (I := I) (J := J) (k := 3) (p := tpo tp tl m) (by omega) k6
    refine ⟨I2, ?_, RFk_l f2⟩
    refine callF_of (by decide) (Nat.le_of_ble_eq_true rfl) ?_
    show Ev X d 180 0 [.ref 177, .retAddr 0] [] ( mk I J) _
    have z1 : 20 ≤ w + 20 := by omega
    have z2 : w + 20 ≤ 26 := by omega
    simp (disch := first | omega | assumption | exact rfl) only [U_180_0, U_180_2, U_180_3, XX, QQ, WW, KK, QX, SHs, RRs, Nat.reduceAdd, Nat.reduceMul, Nat.reduceLeDiff, Nat.reduceEqDiff, List.length_cons, List.length_nil, decide_true, decide_false, Bool.true_and, Bool.and_true, Bool.false_and, Bool.and_false, false_and, and_false, Bool.false_eq_true, Bool.true_eq_false, reduceCtorEq, eq_self, if_true, if_false, true_and, and_true, not_true_eq_false, not_false_eq_true, if_pos, if_neg, z_ite_not, false_or, or_false, true_or, or_true, SWs, swk_0, swk_1, r_isIn, k5, h10, z1, z2, e2]
/-- class: to the way's end, where no number is wanted -/
theorem c_head {w d : Nat} {I : Nat → Nat → Int32} {J : Nat → Nat → Int64} {W : List Int32} (hd : 2 ≤ d) (hL : L < 16) (h : CPs I tp tl m W) (ew : psK tp tl m = w + 260) (w7 : w < 7) : ∃ I', CFr I I' ∧ CPs I' tp tl (m + 1) W ∧ (w ≠ 1 → ∀ r, Ev X d 59 9 [.ref 124, .int (nI L), .int (nI w), .int (nI 0)] [] (mk I' J) r → callF X (d + 1) 59 [.ref 124, .int (nI L)] (mk I J) = some r) ∧ (w = 1 → ∀ r, Ev X d 59 5 [.ref 124, .int (nI L), .int (nI 1), .retAddr 0] [] (mk I' J) r → callF X (d + 1) 59 [.ref 124, .int (nI L)] (mk I J) = some r) := by
  obtain ⟨k5, k6, k7⟩ := CPs_k h
  have hm := psK_lt h.2.2.2.2.1 (by omega)
  rw [ew] at k5
  obtain ⟨I1, e1, f1, s1⟩ := c_nx (X := X) (d := d) (J := J) (by omega) h hm
  have z1 : ¬ L = 16 := by omega
  refine ⟨I1, f1, s1, fun z2 r H => ?_, fun z2 r H => ?_⟩
  · refine callF_of (by decide) (Nat.le_of_ble_eq_true rfl) ?_
    show Ev X d 59 0 [.ref 124, .int (nI L), .retAddr 0, .retAddr 0] [] ( mk I J) _
    simp (disch := first | omega | assumption | exact rfl) only [U_59_0, U_59_2, U_59_4, U_59_6, U_59_7, XX, QQ, WW, KK, QX, SHs, RRs, Nat.reduceAdd, Nat.reduceMul, Nat.reduceLeDiff, Nat.reduceEqDiff, List.length_cons, List.length_nil, decide_true, decide_false, Bool.true_and, Bool.and_true, Bool.false_and, Bool.and_false, false_and, and_false, Bool.false_eq_true, Bool.true_eq_false, reduceCtorEq, eq_self, if_true, if_false, true_and, and_true, not_true_eq_false, not_false_eq_true, if_pos, if_neg, z_ite_not, false_or, or_false, true_or, or_true, SWs, swk_0, swk_1, k5, s_isOf, Nat.add_sub_cancel, w7, z1, z2, e1]
    exact H
  · subst z2
    refine callF_of (by decide) (Nat.le_of_ble_eq_true rfl) ?_
    show Ev X d 59 0 [.ref 124, .int (nI L), .retAddr 0, .retAddr 0] [] ( mk I J) _
    simp (disch := first | omega | assumption | exact rfl) only [U_59_0, U_59_2, U_59_4, XX, QQ, WW, KK, QX, SHs, RRs, Nat.reduceAdd, Nat.reduceMul, Nat.reduceLeDiff, Nat.reduceEqDiff, List.length_cons, List.length_nil, decide_true, decide_false, Bool.true_and, Bool.and_true, Bool.false_and, Bool.and_false, false_and, and_false, Bool.false_eq_true, Bool.true_eq_false, reduceCtorEq, eq_self, if_true, if_false, true_and, and_true, not_true_eq_false, not_false_eq_true, if_pos, if_neg, z_ite_not, false_or, or_false, true_or, or_true, SWs, swk_0, swk_1, k5, s_isOf, Nat.add_sub_cancel, z1, e1]
    exact H
/-- reference: the way is written -/
theorem r_head {w d o : Nat} {I : Nat → Nat → Int32} {J : Nat → Nat → Int64} {Q : List (Nat × Nat)} (hd : 14 ≤ d) (hL : L < 16) (h : RPs I tp tl m Q o) (h10 : I 177 10 = nI L) (ew : psK tp tl m = w + 260) (w7 : w < 7) : ∃ I1, RFr I I1 ∧ RPs I1 tp tl (m + 1) Q 0 ∧ (w ≠ 1 → ∀ r, Ev X d 180 7 [.ref 177, .int (nI w)] [] (mk (va_up I1 180 (va_up (va_up (I1 180) (4 * L) (nI w)) (4 * L + 1) (I1 177 16))) J) r → callF X (d + 1) 180 [.ref 177] (mk I J) = some r) ∧ (w = 1 → ∀ r, Ev X d 180 5 [.ref 177, .int (nI 1)] [] (mk (va_up I1 180 (va_up (va_up (I1 180) (4 * L) (nI 1)) (4 * L + 1) (I1 177 16))) J) r → callF X (d + 1) 180 [.ref 177] (mk I J) = some r) := by
  obtain ⟨k5, k6, k7⟩ := RPs_k h
  have kb := psK_b (tp := tp) (tl := tl) (m := m)
  have hm := psK_lt h.2.2.2.1 (by omega)
  rw [(rq_4 _ kb).2.2.2.1 (by omega) (by omega), ew, show w + 260 - 240 = w + 20 by omega] at k5
  obtain ⟨s0, f0⟩ := RPs_d (o' := 0) h
  obtain ⟨I1, e1, f1, s1⟩ := r_nx (X := X) (d := d) (J := J) (by omega) s0 hm
  have g10 : I1 177 10 = nI L := by
    rw [f1.2 10 (by decide) (by decide) (by decide) (by decide) (by decide) (by decide) (by decide), vu_eq, vu_ne (by decide)]; exact h10
  have z1 : 20 ≤ w + 20 := by omega
  have z2 : w + 20 ≤ 26 := by omega
  have z3 : ¬ L = 16 := by omega
  have z4 : 4 * L < 64 := by omega
  have z5 : 4 * L + 1 < 64 := by omega
  refine ⟨I1, RFr_trans f0 f1, s1, fun z r H => ?_, fun z r H => ?_⟩
  · refine callF_of (by decide) (Nat.le_of_ble_eq_true rfl) ?_
    show Ev X d 180 0 [.ref 177, .retAddr 0] [] ( mk I J) _
    simp (disch := first | omega | assumption | exact rfl) only [U_180_0, U_180_2, U_180_4, XX, QQ, WW, KK, QX, SHs, RRs, Nat.reduceAdd, Nat.reduceMul, Nat.reduceLeDiff, Nat.reduceEqDiff, List.length_cons, List.length_nil, decide_true, decide_false, Bool.true_and, Bool.and_true, Bool.false_and, Bool.and_false, false_and, and_false, Bool.false_eq_true, Bool.true_eq_false, reduceCtorEq, eq_self, if_true, if_false, true_and, and_true, not_true_eq_false, not_false_eq_true, if_pos, if_neg, z_ite_not, false_or, or_false, true_or, or_true, SWs, swk_0, swk_1, r_isIn, k5, h10, g10, z, z1, z2, z3, Nat.add_sub_cancel, e1]
    exact H
  · subst z
    refine callF_of (by decide) (Nat.le_of_ble_eq_true rfl) ?_
    show Ev X d 180 0 [.ref 177, .retAddr 0] [] ( mk I J) _
    simp (disch := first | omega | assumption | exact rfl) only [U_180_0, U_180_2, U_180_4, XX, QQ, WW, KK, QX, SHs, RRs, Nat.reduceAdd, Nat.reduceMul, Nat.reduceLeDiff, Nat.reduceEqDiff, List.length_cons, List.length_nil, decide_true, decide_false, Bool.true_and, Bool.and_true, Bool.false_and, Bool.and_false, false_and, and_false, Bool.false_eq_true, Bool.true_eq_false, reduceCtorEq, eq_self, if_true, if_false, true_and, and_true, not_true_eq_false, not_false_eq_true, if_pos, if_neg, z_ite_not, false_or, or_false, true_or, or_true, SWs, swk_0, swk_1, r_isIn, k5, h10, g10, z1, z2, z3, Nat.add_sub_cancel, e1]
    exact H
end LNH
