/-! ===== a line of a rule: its condition and its end ===== -/
section LNT
variable {X : Nat × (Nat → Int32)} {tp : Nat → Nat} {tl m L : Nat}
theorem c_opn2 {d way by_ : Nat} {I : Nat → Nat → Int32} {J : Nat → Nat → Int64} {W : List Int32} (hd : 1 ≤ d) (h : CPs I tp tl m W) (h0 : I 129 0 = nI L) (hL : L < 16) : ∃ I1, callF X d 68 [.ref 129, .int (nI way), .int (nI by_)] (mk I J) = some (none, mk I1 J) ∧ CFq I I1 ∧ CPs I1 tp tl m W ∧ I1 129 = I 129 ∧ (∀ c, c < 4 → ∀ i, i < L → I1 (130 + c) i = I (130 + c) i) ∧ I1 130 L = nI way ∧ I1 131 L = nI by_ ∧ I1 132 L = nI W.length := by
  refine ⟨_, c_opn hd h0 hL h.2.2.2.2.2.1, ⟨fun a ha => ?_, ?_⟩, CPs_fr ?_ ?_ h, ?_, ?_, ?_, ?_, ?_⟩
  · rw [vu_ne (by omega), vu_ne (by omega), vu_ne (by omega)]
  · rw [vu_ne (by omega), vu_ne (by omega), vu_ne (by omega)]
  · intro a _ _ _ a1 a2 a3 _
    rw [vu_ne a3, vu_ne a2, vu_ne a1]
  · rw [vu_ne (by omega), vu_ne (by omega), vu_ne (by omega)]
  · rw [vu_ne (by omega), vu_ne (by omega), vu_ne (by omega)]
  · intro c hc i hi
    have hi2 : i ≠ L := by omega
    obtain rfl | rfl | rfl | rfl : c = 0 ∨ c = 1 ∨ c = 2 ∨ c = 3 := by omega
    · simp [va_up, hi2]
    · simp [va_up, hi2]
    · simp [va_up, hi2]
    · simp [va_up, hi2]
  · simp [va_up]
  · simp [va_up]
  · simp [va_up]
theorem c_cls2 {d : Nat} {I : Nat → Nat → Int32} {J : Nat → Nat → Int64} {W : List Int32} (hd : 1 ≤ d) (h : CPs I tp tl m W) (h0 : I 129 0 = nI L) (hL : L < 16) : ∃ I1, callF X d 69 [.ref 129] (mk I J) = some (none, mk I1 J) ∧ CFq I I1 ∧ CPs I1 tp tl m W ∧ I1 129 0 = nI (L + 1) ∧ (∀ c, c < 3 → I1 (130 + c) = I (130 + c)) ∧ (∀ i, i < L → I1 133 i = I 133 i) ∧ I1 133 L = nI W.length := by
  refine ⟨_, c_cls hd h0 hL h.2.2.2.2.2.1, ⟨fun a ha => ?_, ?_⟩, CPs_fr ?_ ?_ h, ?_, ?_, ?_, ?_⟩
  · rw [vu_ne (by omega), vu_ne (by omega)]
  · rw [vu_ne (by omega), vu_ne (by omega)]
  · intro a _ _ a1 _ _ _ a2
    rw [vu_ne a1, vu_ne a2]
  · rw [vu_eq, vu_ne (by decide)]
  · rw [vu_eq, vu_eq]
  · intro c hc
    rw [vu_ne (by omega), vu_ne (by omega)]
  · intro i hi
    have hi2 : i ≠ L := by omega
    simp [va_up, hi2]
  · simp [va_up]
def CtF (X : Nat × (Nat → Int32)) (tp : Nat → Nat) (tl m k p : Nat) : Prop := ∀ (d : Nat) (I : Nat → Nat → Int32) (J : Nat → Nat → Int64) (W : List Int32) (L w b : Nat), 40 ≤ d → L < 16 → CPs I tp tl m W → W.length ≤ m → I 129 0 = nI L → ∃ I', CFl I I' k p ∧ Ev X d 59 9 [.ref 124, .int (nI L), .int (nI w), .int (nI b)] [] (mk I J) (some (.int (nI 0)), mk I' J)
def CtT (X : Nat × (Nat → Int32)) (tp : Nat → Nat) (tl m m' : Nat) (S : List (Nat × Nat)) : Prop := ∀ (d : Nat) (I : Nat → Nat → Int32) (J : Nat → Nat → Int64) (W : List Int32) (L w b : Nat), 40 ≤ d → L < 16 → CPs I tp tl m W → W.length ≤ m → I 129 0 = nI L → ∃ I', CFq I I' ∧ CPs I' tp tl m' (W ++ segC S) ∧ I' 129 0 = nI (L + 1) ∧ (∀ c, c < 4 → ∀ i, i < L → I' (130 + c) i = I (130 + c) i) ∧ I' 130 L = nI w ∧ I' 131 L = nI b ∧ I' 132 L = nI W.length ∧ I' 133 L = nI (W.length + (segC S).length) ∧ Ev X d 59 9 [.ref 124, .int (nI L), .int (nI w), .int (nI b)] [] (mk I J) (some (.int (nI 1)), mk I' J)
/-- class: a line without condition -/
theorem ct_0 (k1 : psK tp tl m = 59) : CtT X tp tl m (m + 1) [] := by
  intro d I J W L w b hd hL h hw h0
  obtain ⟨I1, e1, f1, s1, g1, q1, q2, q3, q4⟩ := c_opn2 (X := X) (d := d) (J := J) (way := w) (by_ := b) (by omega) h h0 hL
  obtain ⟨I2, e2, f2, s2, p1, p2, p3, p4⟩ := c_cls2 (X := X) (d := d) (J := J) (by omega) s1 (by rw [g1]; exact h0) hL
  obtain ⟨I3, e3, f3, s3⟩ := c_accY (X := X) (d := d) (J := J) (by omega) s2 k1 (by decide)
  obtain ⟨k5, k6, k7⟩ := CPs_k s1
  rw [k1] at k5
  have fr : ∀ a, 130 ≤ a → a ≤ 133 → I3 a = I2 a := fun a a1 a2 => f3.1 a (by omega) (by omega) (by omega)
  refine ⟨I3, CFq_t f1 (CFq_t f2 (CFq_r f3)), ?_, ?_, ?_, ?_, ?_, ?_, ?_, ?_⟩
  · rw [segC, List.append_nil]; exact s3
  · rw [f3.2 0 (by decide)]; exact p1
  · intro c hc i hi
    rw [fr _ (by omega) (by omega)]
    by_cases z : c = 3
    · subst z; rw [p3 i hi]; exact q1 3 (by decide) i hi
    · rw [p2 c (by omega)]; exact q1 c hc i hi
  · rw [fr _ (by omega) (by omega), p2 0 (by decide)]; exact q2
  · rw [fr _ (by omega) (by omega), p2 1 (by decide)]; exact q3
  · rw [fr _ (by omega) (by omega), p2 2 (by decide)]; exact q4
  · rw [fr _ (by omega) (by omega), p4]; rfl
  · simp (disch := first | omega | assumption | exact rfl) only [U_59_9, U_59_12, XX, QQ, WW, KK, QX, SHs, RRs, Nat.reduceAdd, Nat.reduceMul, Nat.reduceLeDiff, Nat.reduceEqDiff, List.length_cons, List.length_nil, decide_true, decide_false, Bool.true_and, Bool.and_true, Bool.false_and, Bool.and_false, false_and, and_false, Bool.false_eq_true, Bool.true_eq_false, reduceCtorEq, eq_self, if_true, if_false, true_and, and_true, not_true_eq_false, not_false_eq_true, if_pos, if_neg, z_ite_not, false_or, or_false, true_or, or_true, SWs, swk_0, swk_1, e1, k5, e2, e3]
theorem ct_0F (k1 : psK tp tl m ≠ 59) (k2 : psK tp tl m ≠ 267) : CtF X tp tl m 1 (tpo tp tl m) := by
  intro d I J W L w b hd hL h hw h0
  have kb := psK_b (tp := tp) (tl := tl) (m := m)
  obtain ⟨I1, e1, f1, s1, g1, q1, q2, q3, q4⟩ := c_opn2 (X := X) (d := d) (J := J) (way := w) (by_ := b) (by omega) h h0 hL
  obtain ⟨I2, e2, f2, s2, p1, p2, p3, p4⟩ := c_cls2 (X := X) (d := d) (J := J) (by omega) s1 (by rw [g1]; exact h0) hL
  obtain ⟨I3, e3, f3⟩ := c_accF (X := X) (d := d) (J := J) (by omega) s2 k1 (by decide)
  obtain ⟨k5, k6, k7⟩ := CPs_k s1
  refine ⟨I3, CFl_q (CFq_t f1 f2) f3.1, ?_⟩
  simp (disch := first | omega | assumption | exact rfl) only [U_59_9, U_59_12, XX, QQ, WW, KK, QX, SHs, RRs, Nat.reduceAdd, Nat.reduceMul, Nat.reduceLeDiff, Nat.reduceEqDiff, List.length_cons, List.length_nil, decide_true, decide_false, Bool.true_and, Bool.and_true, Bool.false_and, Bool.and_false, false_and, and_false, Bool.false_eq_true, Bool.true_eq_false, reduceCtorEq, eq_self, if_true, if_false, true_and, and_true, not_true_eq_false, not_false_eq_true, if_pos, if_neg, z_ite_not, false_or, or_false, true_or, or_true, SWs, swk_0, swk_1, e1, k5, k2, e2, e3]
/-- class: a line with a condition -/
theorem ct_1 {m1 : Nat} {S : List (Nat × Nat)} (k1 : psK tp tl m = 267) (hc : COk X 40 60 [.ref 124, .int (nI 0)] tp tl (m + 1) m1 S) (k2 : psK tp tl m1 = 59) : CtT X tp tl m (m1 + 1) S := by
  intro d I J W L w b hd hL h hw h0
  have hm := psK_lt h.2.2.2.2.1 (by omega)
  obtain ⟨I1, e1, f1, s1, g1, q1, q2, q3, q4⟩ := c_opn2 (X := X) (d := d) (J := J) (way := w) (by_ := b) (by omega) h h0 hL
  obtain ⟨k5, k6, k7⟩ := CPs_k s1
  rw [k1] at k5
  obtain ⟨Ia, ea, fa, sa⟩ := c_nx (X := X) (d := d) (J := J) (by omega) s1 hm
  obtain ⟨Ib, eb, fb, sb⟩ := hc d Ia J W (by omega) sa (by omega)
  have gb : Ib 129 0 = nI L := by rw [fb.2 0 (by decide), fa.2 0 (by decide), g1]; exact h0
  obtain ⟨I2, e2, f2, s2, p1, p2, p3, p4⟩ := c_cls2 (X := X) (d := d) (J := J) (by omega) sb gb hL
  obtain ⟨I3, e3, f3, s3⟩ := c_accY (X := X) (d := d) (J := J) (by omega) s2 k2 (by decide)
  have fr : ∀ a, 130 ≤ a → a ≤ 133 → I3 a = I2 a := fun a a1 a2 => f3.1 a (by omega) (by omega) (by omega)
  have fs : ∀ a, 130 ≤ a → a ≤ 133 → Ib a = I1 a := fun a a1 a2 => by rw [fb.1 a (by omega) (by omega) (by omega), fa.1 a (by omega) (by omega) (by omega)]
  refine ⟨I3, CFq_t f1 (CFq_t (CFq_r fa) (CFq_t (CFq_r fb) (CFq_t f2 (CFq_r f3)))), s3, ?_, ?_, ?_, ?_, ?_, ?_, ?_⟩
  · rw [f3.2 0 (by decide)]; exact p1
  · intro c hc i hi
    rw [fr _ (by omega) (by omega)]
    by_cases z : c = 3
    · subst z; rw [p3 i hi, fs _ (by omega) (by omega)]; exact q1 3 (by decide) i hi
    · rw [p2 c (by omega), fs _ (by omega) (by omega)]; exact q1 c hc i hi
  · rw [fr _ (by omega) (by omega), p2 0 (by decide), fs _ (by omega) (by omega)]; exact q2
  · rw [fr _ (by omega) (by omega), p2 1 (by decide), fs _ (by omega) (by omega)]; exact q3
  · rw [fr _ (by omega) (by omega), p2 2 (by decide), fs _ (by omega) (by omega)]; exact q4
  · rw [fr _ (by omega) (by omega), p4, List.length_append]
  · simp (disch := first | omega | assumption | exact rfl) only [U_59_9, U_59_10, U_59_12, XX, QQ, WW, KK, QX, SHs, RRs, Nat.reduceAdd, Nat.reduceMul, Nat.reduceLeDiff, Nat.reduceEqDiff, List.length_cons, List.length_nil, decide_true, decide_false, Bool.true_and, Bool.and_true, Bool.false_and, Bool.and_false, false_and, and_false, Bool.false_eq_true, Bool.true_eq_false, reduceCtorEq, eq_self, if_true, if_false, true_and, and_true, not_true_eq_false, not_false_eq_true, if_pos, if_neg, z_ite_not, false_or, or_false, true_or, or_true, SWs, swk_0, swk_1, e1, k5, ea, eb, e2, e3]
theorem ct_1F {k p : Nat} (k1 : psK tp tl m = 267) (hc : CNo X 40 60 [.ref 124, .int (nI 0)] tp tl (m + 1) k p) : CtF X tp tl m k p := by
  intro d I J W L w b hd hL h hw h0
  have hm := psK_lt h.2.2.2.2.1 (by omega)
  obtain ⟨I1, e1, f1, s1, g1, q1, q2, q3, q4⟩ := c_opn2 (X := X) (d := d) (J := J) (way := w) (by_ := b) (by omega) h h0 hL
  obtain ⟨k5, k6, k7⟩ := CPs_k s1
  rw [k1] at k5
  obtain ⟨Ia, ea, fa, sa⟩ := c_nx (X := X) (d := d) (J := J) (by omega) s1 hm
  obtain ⟨Ib, eb, fb⟩ := hc d Ia J W (by omega) sa (by omega)
  refine ⟨Ib, CFl_q (CFq_t f1 (CFq_r fa)) fb.1, ?_⟩
  simp (disch := first | omega | assumption | exact rfl) only [U_59_9, U_59_10, U_59_11, XX, QQ, WW, KK, QX, SHs, RRs, Nat.reduceAdd, Nat.reduceMul, Nat.reduceLeDiff, Nat.reduceEqDiff, List.length_cons, List.length_nil, decide_true, decide_false, Bool.true_and, Bool.and_true, Bool.false_and, Bool.and_false, false_and, and_false, Bool.false_eq_true, Bool.true_eq_false, reduceCtorEq, eq_self, if_true, if_false, true_and, and_true, not_true_eq_false, not_false_eq_true, if_pos, if_neg, z_ite_not, false_or, or_false, true_or, or_true, SWs, swk_0, swk_1, e1, k5, ea, eb]
theorem ct_2F {m1 : Nat} {S : List (Nat × Nat)} (k1 : psK tp tl m = 267) (hc : COk X 40 60 [.ref 124, .int (nI 0)] tp tl (m + 1) m1 S) (k2 : psK tp tl m1 ≠ 59) : CtF X tp tl m 1 (tpo tp tl m1) := by
  intro d I J W L w b hd hL h hw h0
  have hm := psK_lt h.2.2.2.2.1 (by omega)
  obtain ⟨I1, e1, f1, s1, g1, q1, q2, q3, q4⟩ := c_opn2 (X := X) (d := d) (J := J) (way := w) (by_ := b) (by omega) h h0 hL
  obtain ⟨k5, k6, k7⟩ := CPs_k s1
  rw [k1] at k5
  obtain ⟨Ia, ea, fa, sa⟩ := c_nx (X := X) (d := d) (J := J) (by omega) s1 hm
  obtain ⟨Ib, eb, fb, sb⟩ := hc d Ia J W (by omega) sa (by omega)
  have gb : Ib 129 0 = nI L := by rw [fb.2 0 (by decide), fa.2 0 (by decide), g1]; exact h0
  obtain ⟨I2, e2, f2, s2, p1, p2, p3, p4⟩ := c_cls2 (X := X) (d := d) (J := J) (by omega) sb gb hL
  obtain ⟨I3, e3, f3⟩ := c_accF (X := X) (d := d) (J := J) (by omega) s2 k2 (by decide)
  refine ⟨I3, CFl_q (CFq_t f1 (CFq_t (CFq_r fa) (CFq_t (CFq_r fb) f2))) f3.1, ?_⟩
  simp (disch := first | omega | assumption | exact rfl) only [U_59_9, U_59_10, U_59_12, XX, QQ, WW, KK, QX, SHs, RRs, Nat.reduceAdd, Nat.reduceMul, Nat.reduceLeDiff, Nat.reduceEqDiff, List.length_cons, List.length_nil, decide_true, decide_false, Bool.true_and, Bool.and_true, Bool.false_and, Bool.and_false, false_and, and_false, Bool.false_eq_true, Bool.true_eq_false, reduceCtorEq, eq_self, if_true, if_false, true_and, and_true, not_true_eq_false, not_false_eq_true, if_pos, if_neg, z_ite_not, false_or, or_false, true_or, or_true, SWs, swk_0, swk_1, e1, k5, ea, eb, e2, e3]
end LNT
