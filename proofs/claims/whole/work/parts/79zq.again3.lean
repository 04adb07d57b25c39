/-! ===== again: refused or not ===== -/
theorem lc0' : lg_cmp (lN 0) (lN 0) = 0 := by decide +kernel
theorem b_again {X : Nat × (Nat → Int32)} {d : Nat} {I : Nat → Nat → Int32} {J : Nat → Nat → Int64} {u1 u2 u3 u4 u5 : Int32} (hd : 9 ≤ d) (h : Inv I J) : Both X d 131 227 [.int u1, .int u2, .int u3, .int u4, .int u5] I J := by
  obtain ⟨FS, hs⟩ := Inv_sh h
  rcases of_d u1 5 6 rfl (by decide) with ⟨a, ha, rfl⟩ | ⟨o1, o2⟩
  · rcases of_d u2 5 6 rfl (by decide) with ⟨b, hb, rfl⟩ | ⟨o1, o2⟩
    · rcases of_d u3 5 6 rfl (by decide) with ⟨s, hs6, rfl⟩ | ⟨o1, o2⟩
      · obtain ⟨hF, hj, hRs⟩ := hs s hs6
        have p24 := hRs.1
        have c70 : I 178 (70 + s) = nI (pop (FS s)) := hRs.2.1
        rcases of_d u4 6 7 rfl (by decide) with ⟨w, hw, rfl⟩ | ⟨o1, o2⟩
        · by_cases p0 : pop (FS s) = 0
          · have f0 := (pop_z hF).mp p0
            rw [f0] at hj
            rw [p0] at c70
            refine Both_0 (-1) h ?_ ?_
            · refine callF_at (by omega) (by decide) (Nat.le_of_ble_eq_true rfl) (fun d _ => ?_)
              show Ev X d 131 0 [.ref 0, .int (nI a), .int (nI b), .int (nI s), .int (nI w), .int u5, .retAddr 0] [] ( mk I J) _
              simp (disch := first | omega | assumption | exact rfl) only [U_131_0, U_131_1, U_131_2, U_131_3, U_131_5, U_131_8, XX, QQ, WW, KK, QX, SHs, RRs, Nat.reduceAdd, Nat.reduceMul, Nat.reduceLeDiff, Nat.reduceEqDiff, List.length_cons, List.length_nil, decide_true, decide_false, Bool.true_and, Bool.and_true, Bool.false_and, Bool.and_false, false_and, and_false, Bool.false_eq_true, Bool.true_eq_false, reduceCtorEq, eq_self, if_true, if_false, true_and, and_true, not_true_eq_false, not_false_eq_true, if_pos, if_neg, z_ite_not, false_or, or_false, true_or, or_true, SWs, swk_0, swk_1, s_isOf, hj, lc0']
            · refine callF_at (by omega) (by decide) (Nat.le_of_ble_eq_true rfl) (fun d _ => ?_)
              show Ev X d 227 0 [.ref 177, .int (nI a), .int (nI b), .int (nI s), .int (nI w), .int u5, .retAddr 0] [] ( mk I J) _
              simp (disch := first | omega | assumption | exact rfl) only [U_227_0, U_227_1, U_227_2, U_227_3, U_227_7, XX, QQ, WW, KK, QX, SHs, RRs, Nat.reduceAdd, Nat.reduceMul, Nat.reduceLeDiff, Nat.reduceEqDiff, List.length_cons, List.length_nil, decide_true, decide_false, Bool.true_and, Bool.and_true, Bool.false_and, Bool.and_false, false_and, and_false, Bool.false_eq_true, Bool.true_eq_false, reduceCtorEq, eq_self, if_true, if_false, true_and, and_true, not_true_eq_false, not_false_eq_true, if_pos, if_neg, z_ite_not, false_or, or_false, true_or, or_true, SWs, swk_0, swk_1, r_isWall, r_isShape, c70]
          · by_cases w1 : w = 1
            · rcases of_d u5 99 100 rfl (by decide) with ⟨y, hy, rfl⟩ | ⟨o1, o2⟩
              · exact ag_ok hd h ha hb hs6 hw (y := y) (by omega) (fun _ => rfl) FS hF hj hRs (by omega)
              · subst w1
                have nz := lc0 hF (fun z => p0 ((pop_z hF).mpr z))
                refine Both_0 (-1) h ?_ ?_
                · refine callF_at (by omega) (by decide) (Nat.le_of_ble_eq_true rfl) (fun d _ => ?_)
                  show Ev X d 131 0 [.ref 0, .int (nI a), .int (nI b), .int (nI s), .int (nI 1), .int u5, .retAddr 0] [] ( mk I J) _
                  simp (disch := first | omega | assumption | exact rfl) only [U_131_0, U_131_1, U_131_2, U_131_3, U_131_5, U_131_6, U_131_7, U_131_8, XX, QQ, WW, KK, QX, SHs, RRs, Nat.reduceAdd, Nat.reduceMul, Nat.reduceLeDiff, Nat.reduceEqDiff, List.length_cons, List.length_nil, decide_true, decide_false, Bool.true_and, Bool.and_true, Bool.false_and, Bool.and_false, false_and, and_false, Bool.false_eq_true, Bool.true_eq_false, reduceCtorEq, eq_self, if_true, if_false, true_and, and_true, not_true_eq_false, not_false_eq_true, if_pos, if_neg, z_ite_not, false_or, or_false, true_or, or_true, SWs, swk_0, swk_1, s_isOf, hj, nz, o1]
                · refine callF_at (by omega) (by decide) (Nat.le_of_ble_eq_true rfl) (fun d _ => ?_)
                  show Ev X d 227 0 [.ref 177, .int (nI a), .int (nI b), .int (nI s), .int (nI 1), .int u5, .retAddr 0] [] ( mk I J) _
                  simp (disch := first | omega | assumption | exact rfl) only [U_227_0, U_227_1, U_227_2, U_227_3, U_227_4, U_227_5, U_227_6, U_227_7, XX, QQ, WW, KK, QX, SHs, RRs, Nat.reduceAdd, Nat.reduceMul, Nat.reduceLeDiff, Nat.reduceEqDiff, List.length_cons, List.length_nil, decide_true, decide_false, Bool.true_and, Bool.and_true, Bool.false_and, Bool.and_false, false_and, and_false, Bool.false_eq_true, Bool.true_eq_false, reduceCtorEq, eq_self, if_true, if_false, true_and, and_true, not_true_eq_false, not_false_eq_true, if_pos, if_neg, z_ite_not, false_or, or_false, true_or, or_true, SWs, swk_0, swk_1, r_isWall, r_isShape, r_isIn, c70, p0, o2]
            · exact ag_ok hd h ha hb hs6 hw (y := 0) (by omega) (fun z => absurd z w1) FS hF hj hRs (by omega)
        · refine Both_0 (-1) h ?_ ?_
          · refine callF_at (by omega) (by decide) (Nat.le_of_ble_eq_true rfl) (fun d _ => ?_)
            show Ev X d 131 0 [.ref 0, .int (nI a), .int (nI b), .int (nI s), .int u4, .int u5, .retAddr 0] [] ( mk I J) _
            simp (disch := first | omega | assumption | exact rfl) only [U_131_0, U_131_1, U_131_2, U_131_3, U_131_4, XX, QQ, WW, KK, QX, SHs, RRs, Nat.reduceAdd, Nat.reduceMul, Nat.reduceLeDiff, Nat.reduceEqDiff, List.length_cons, List.length_nil, decide_true, decide_false, Bool.true_and, Bool.and_true, Bool.false_and, Bool.and_false, false_and, and_false, Bool.false_eq_true, Bool.true_eq_false, reduceCtorEq, eq_self, if_true, if_false, true_and, and_true, not_true_eq_false, not_false_eq_true, if_pos, if_neg, z_ite_not, false_or, or_false, true_or, or_true, SWs, swk_0, swk_1, s_isOf, o1]
          · refine callF_at (by omega) (by decide) (Nat.le_of_ble_eq_true rfl) (fun d _ => ?_)
            show Ev X d 227 0 [.ref 177, .int (nI a), .int (nI b), .int (nI s), .int u4, .int u5, .retAddr 0] [] ( mk I J) _
            by_cases p0 : pop (FS s) = 0
            · rw [p0] at c70
              simp (disch := first | omega | assumption | exact rfl) only [U_227_0, U_227_1, U_227_2, U_227_3, U_227_7, XX, QQ, WW, KK, QX, SHs, RRs, Nat.reduceAdd, Nat.reduceMul, Nat.reduceLeDiff, Nat.reduceEqDiff, List.length_cons, List.length_nil, decide_true, decide_false, Bool.true_and, Bool.and_true, Bool.false_and, Bool.and_false, false_and, and_false, Bool.false_eq_true, Bool.true_eq_false, reduceCtorEq, eq_self, if_true, if_false, true_and, and_true, not_true_eq_false, not_false_eq_true, if_pos, if_neg, z_ite_not, false_or, or_false, true_or, or_true, SWs, swk_0, swk_1, r_isWall, r_isShape, c70]
            · simp (disch := first | omega | assumption | exact rfl) only [U_227_0, U_227_1, U_227_2, U_227_3, U_227_4, U_227_7, XX, QQ, WW, KK, QX, SHs, RRs, Nat.reduceAdd, Nat.reduceMul, Nat.reduceLeDiff, Nat.reduceEqDiff, List.length_cons, List.length_nil, decide_true, decide_false, Bool.true_and, Bool.and_true, Bool.false_and, Bool.and_false, false_and, and_false, Bool.false_eq_true, Bool.true_eq_false, reduceCtorEq, eq_self, if_true, if_false, true_and, and_true, not_true_eq_false, not_false_eq_true, if_pos, if_neg, z_ite_not, false_or, or_false, true_or, or_true, SWs, swk_0, swk_1, r_isWall, r_isShape, r_isIn, c70, p0, o2]
      · refine Both_0 (-1) h ?_ ?_
        · refine callF_at (by omega) (by decide) (Nat.le_of_ble_eq_true rfl) (fun d _ => ?_)
          show Ev X d 131 0 [.ref 0, .int (nI a), .int (nI b), .int u3, .int u4, .int u5, .retAddr 0] [] ( mk I J) _
          simp (disch := first | omega | assumption | exact rfl) only [U_131_0, U_131_1, U_131_2, U_131_3, U_131_4, XX, QQ, WW, KK, QX, SHs, RRs, Nat.reduceAdd, Nat.reduceMul, Nat.reduceLeDiff, Nat.reduceEqDiff, List.length_cons, List.length_nil, decide_true, decide_false, Bool.true_and, Bool.and_true, Bool.false_and, Bool.and_false, false_and, and_false, Bool.false_eq_true, Bool.true_eq_false, reduceCtorEq, eq_self, if_true, if_false, true_and, and_true, not_true_eq_false, not_false_eq_true, if_pos, if_neg, z_ite_not, false_or, or_false, true_or, or_true, SWs, swk_0, swk_1, s_isOf, o1]
        · refine callF_at (by omega) (by decide) (Nat.le_of_ble_eq_true rfl) (fun d _ => ?_)
          show Ev X d 227 0 [.ref 177, .int (nI a), .int (nI b), .int u3, .int u4, .int u5, .retAddr 0] [] ( mk I J) _
          simp (disch := first | omega | assumption | exact rfl) only [U_227_0, U_227_1, U_227_2, U_227_7, XX, QQ, WW, KK, QX, SHs, RRs, Nat.reduceAdd, Nat.reduceMul, Nat.reduceLeDiff, Nat.reduceEqDiff, List.length_cons, List.length_nil, decide_true, decide_false, Bool.true_and, Bool.and_true, Bool.false_and, Bool.and_false, false_and, and_false, Bool.false_eq_true, Bool.true_eq_false, reduceCtorEq, eq_self, if_true, if_false, true_and, and_true, not_true_eq_false, not_false_eq_true, if_pos, if_neg, z_ite_not, false_or, or_false, true_or, or_true, SWs, swk_0, swk_1, r_isWall, r_isShape, o2]
    · refine Both_0 (-1) h ?_ ?_
      · refine callF_at (by omega) (by decide) (Nat.le_of_ble_eq_true rfl) (fun d _ => ?_)
        show Ev X d 131 0 [.ref 0, .int (nI a), .int u2, .int u3, .int u4, .int u5, .retAddr 0] [] ( mk I J) _
        simp (disch := first | omega | assumption | exact rfl) only [U_131_0, U_131_1, U_131_2, U_131_3, U_131_4, XX, QQ, WW, KK, QX, SHs, RRs, Nat.reduceAdd, Nat.reduceMul, Nat.reduceLeDiff, Nat.reduceEqDiff, List.length_cons, List.length_nil, decide_true, decide_false, Bool.true_and, Bool.and_true, Bool.false_and, Bool.and_false, false_and, and_false, Bool.false_eq_true, Bool.true_eq_false, reduceCtorEq, eq_self, if_true, if_false, true_and, and_true, not_true_eq_false, not_false_eq_true, if_pos, if_neg, z_ite_not, false_or, or_false, true_or, or_true, SWs, swk_0, swk_1, s_isOf, o1]
      · refine callF_at (by omega) (by decide) (Nat.le_of_ble_eq_true rfl) (fun d _ => ?_)
        show Ev X d 227 0 [.ref 177, .int (nI a), .int u2, .int u3, .int u4, .int u5, .retAddr 0] [] ( mk I J) _
        simp (disch := first | omega | assumption | exact rfl) only [U_227_0, U_227_1, U_227_2, U_227_7, XX, QQ, WW, KK, QX, SHs, RRs, Nat.reduceAdd, Nat.reduceMul, Nat.reduceLeDiff, Nat.reduceEqDiff, List.length_cons, List.length_nil, decide_true, decide_false, Bool.true_and, Bool.and_true, Bool.false_and, Bool.and_false, false_and, and_false, Bool.false_eq_true, Bool.true_eq_false, reduceCtorEq, eq_self, if_true, if_false, true_and, and_true, not_true_eq_false, not_false_eq_true, if_pos, if_neg, z_ite_not, false_or, or_false, true_or, or_true, SWs, swk_0, swk_1, r_isWall, o2]
  · refine Both_0 (-1) h ?_ ?_
    · refine callF_at (by omega) (by decide) (Nat.le_of_ble_eq_true rfl) (fun d _ => ?_)
      show Ev X d 131 0 [.ref 0, .int u1, .int u2, .int u3, .int u4, .int u5, .retAddr 0] [] ( mk I J) _
      simp (disch := first | omega | assumption | exact rfl) only [U_131_0, U_131_1, U_131_2, U_131_3, U_131_4, XX, QQ, WW, KK, QX, SHs, RRs, Nat.reduceAdd, Nat.reduceMul, Nat.reduceLeDiff, Nat.reduceEqDiff, List.length_cons, List.length_nil, decide_true, decide_false, Bool.true_and, Bool.and_true, Bool.false_and, Bool.and_false, false_and, and_false, Bool.false_eq_true, Bool.true_eq_false, reduceCtorEq, eq_self, if_true, if_false, true_and, and_true, not_true_eq_false, not_false_eq_true, if_pos, if_neg, z_ite_not, false_or, or_false, true_or, or_true, SWs, swk_0, swk_1, s_isOf, o1]
    · refine callF_at (by omega) (by decide) (Nat.le_of_ble_eq_true rfl) (fun d _ => ?_)
      show Ev X d 227 0 [.ref 177, .int u1, .int u2, .int u3, .int u4, .int u5, .retAddr 0] [] ( mk I J) _
      simp (disch := first | omega | assumption | exact rfl) only [U_227_0, U_227_7, XX, QQ, WW, KK, QX, SHs, RRs, Nat.reduceAdd, Nat.reduceMul, Nat.reduceLeDiff, Nat.reduceEqDiff, List.length_cons, List.length_nil, decide_true, decide_false, Bool.true_and, Bool.and_true, Bool.false_and, Bool.and_false, false_and, and_false, Bool.false_eq_true, Bool.true_eq_false, reduceCtorEq, eq_self, if_true, if_false, true_and, and_true, not_true_eq_false, not_false_eq_true, if_pos, if_neg, z_ite_not, false_or, or_false, true_or, or_true, SWs, swk_0, swk_1, r_isWall, o2]
