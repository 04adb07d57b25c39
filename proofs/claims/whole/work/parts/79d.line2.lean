/-! ===== a rule's line: the reference ===== -/
section LNF
variable {X : Nat × (Nat → Int32)} {d : Nat} {I : Nat → Nat → Int32} {J : Nat → Nat → Int64} {k L R : Nat} {sg : Nat → List (Nat × Nat)} {vs : Nat → Int32}
theorem r_lineLoop {u2 : Value} {n3 : Int32} (hd : 4 ≤ d) (hk3 : k < 3) (hL16 : L ≤ 16) (h0 : I 178 (4490 + k) = nI L) (hs : ∀ i, i < L → RuL I R 178 k i (sg i)) (hv : ∀ o, o < 5 → I 184 (o + 1) = vs (o + 1)) (u5 : Value) :
    ∃ f, Ev X d 229 1 [.ref 177, .int (nI k), u2, .int n3, .int (nI 0), u5] [] (mk I J) (some (.int (fkO (16 * k) (lnY sg vs) L 0)), mk (va_up I 183 f) J) := by
  refine lpI (n := L) (P := fun i => ∀ (f : Nat → Int32) (u5 : Value), ∃ f', Ev X d 229 1 [.ref 177, .int (nI k), u2, .int n3, .int (nI i), u5] [] (mk (va_up I 183 f) J) (some (.int (fkO (16 * k) (lnY sg vs) (L - i) i)), mk (va_up I 183 f') J)) ?_ ?_ (fun Q => by have := Q (I 183) u5; rw [vu_id] at this; exact this)
  · intro f u5
    refine ⟨f, ?_⟩
    rw [show L - L = 0 by omega, fkO, U_229_1]
    simp (disch := first | omega | assumption | exact rfl) only [U_229_6, XX, QQ, WW, KK, QX, SHs, RRs, Nat.reduceAdd, Nat.reduceMul, Nat.reduceLeDiff, Nat.reduceEqDiff, List.length_cons, List.length_nil, decide_true, decide_false, Bool.true_and, Bool.and_true, Bool.false_and, Bool.and_false, false_and, and_false, Bool.false_eq_true, Bool.true_eq_false, reduceCtorEq, eq_self, if_true, if_false, true_and, and_true, not_true_eq_false, not_false_eq_true, if_pos, if_neg, z_ite_not, false_or, or_false, true_or, or_true, SWs, swk_0, swk_1, h0]
  · intro i hi ih f u5
    obtain ⟨way, by_, s, e, fr, t, q1, q2, q3, q4, q5, q6, q7, q8, q9, q10, q11, q12, q13, q14, q15⟩ := hs i hi
    have hi16 : i < 16 := by omega
    have q8 : I 178 (4600 + (16 * k + i)) = nI fr := by rw [← Nat.add_assoc]; exact q8
    have q9 : I 178 (4650 + (16 * k + i)) = nI t := by rw [← Nat.add_assoc]; exact q9
    rw [show L - i = (L - (i + 1)) + 1 by omega, fkO]
    by_cases y : sg i = []
    · have c : lnY sg vs i = true := cd_iff.mpr (.inl y)
      rw [if_pos c]
      refine ⟨f, ?_⟩
      have es : t = fr := by rw [q12, y]; rfl
      rw [es] at q9
      have s400 : fr ≤ 409 := by omega
      rw [U_229_1]
      simp (disch := first | omega | assumption | exact rfl) only [U_229_2, U_229_4, XX, QQ, WW, KK, QX, SHs, RRs, Nat.reduceAdd, Nat.reduceMul, Nat.reduceLeDiff, Nat.reduceEqDiff, List.length_cons, List.length_nil, decide_true, decide_false, Bool.true_and, Bool.and_true, Bool.false_and, Bool.and_false, false_and, and_false, Bool.false_eq_true, Bool.true_eq_false, reduceCtorEq, eq_self, if_true, if_false, true_and, and_true, not_true_eq_false, not_false_eq_true, if_pos, if_neg, z_ite_not, false_or, or_false, true_or, or_true, SWs, swk_0, swk_1, h0, q8, q9]
    · have ha : ak (sg i) [] = some [true] := q15.resolve_left y
      obtain ⟨b, hb⟩ := evL_b (vs := vs) ha
      obtain ⟨f2, ho⟩ := r_comesTo (X := X) (d := d) (I := va_up I 183 f) (J := J) (by omega) hk3 q10 (fun o ho => by rw [vu_ne (by decide)]; exact hv o ho) ha (by rw [vu_ne (by decide)]; exact q14) q12 hb
      rw [vu_vu] at ho
      have hl : 0 < (sg i).length := List.length_pos_iff.mpr y
      have es : ¬ t = fr := by omega
      have s400 : fr ≤ 409 := by omega
      cases b with
      | true =>
        have c : lnY sg vs i = true := cd_iff.mpr (.inr hb)
        rw [if_pos c]
        refine ⟨f2, ?_⟩
        rw [show bI true = nI 1 from rfl] at ho
        rw [U_229_1]
        simp (disch := first | omega | assumption | exact rfl) only [U_229_2, U_229_3, U_229_4, XX, QQ, WW, KK, QX, SHs, RRs, Nat.reduceAdd, Nat.reduceMul, Nat.reduceLeDiff, Nat.reduceEqDiff, List.length_cons, List.length_nil, decide_true, decide_false, Bool.true_and, Bool.and_true, Bool.false_and, Bool.and_false, false_and, and_false, Bool.false_eq_true, Bool.true_eq_false, reduceCtorEq, eq_self, if_true, if_false, true_and, and_true, not_true_eq_false, not_false_eq_true, if_pos, if_neg, z_ite_not, false_or, or_false, true_or, or_true, SWs, swk_0, swk_1, h0, q8, q9, ho]
      | false =>
        have c : ¬ lnY sg vs i = true := fun z => by
          rcases cd_iff.mp z with z | z
          · exact y z
          · rw [hb] at z; exact absurd z (by decide +kernel)
        rw [if_neg c]
        rw [show bI false = nI 0 from rfl] at ho
        obtain ⟨f3, w1⟩ := ih f2 (.int (nI (16 * k + i)))
        refine ⟨f3, ?_⟩
        rw [U_229_1]
        simp (disch := first | omega | assumption | exact rfl) only [U_229_2, U_229_3, U_229_5, XX, QQ, WW, KK, QX, SHs, RRs, Nat.reduceAdd, Nat.reduceMul, Nat.reduceLeDiff, Nat.reduceEqDiff, List.length_cons, List.length_nil, decide_true, decide_false, Bool.true_and, Bool.and_true, Bool.false_and, Bool.and_false, false_and, and_false, Bool.false_eq_true, Bool.true_eq_false, reduceCtorEq, eq_self, if_true, if_false, true_and, and_true, not_true_eq_false, not_false_eq_true, if_pos, if_neg, z_ite_not, false_or, or_false, true_or, or_true, SWs, swk_0, swk_1, h0, q8, q9, ho]
        exact w1
end LNF
