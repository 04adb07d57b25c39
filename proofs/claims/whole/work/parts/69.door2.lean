theorem b_door {X : Nat × (Nat → Int32)} {d : Nat} {I : Nat → Nat → Int32} {J : Nat → Nat → Int64} {u v w : Int32} (hd : 7 ≤ d) (h : Inv I J) : Both X d 145 253 [.int u, .int v, .int w] I J := by
  obtain ⟨FW, hw⟩ := Inv_wl h
  rcases of_d u 5 6 rfl (by decide) with ⟨a, ha, rfl⟩ | ⟨o1, o2⟩
  · obtain ⟨hG, hB, hR⟩ := hw a ha
    have h24 := hG.2.2.1
    have hc : I (14 + 4 * a) 1 = nI (pop (FW a)) := hG.2.2.2.2.1
    rcases of_e v (pop (FW a)) (by omega) with ⟨i, hi, rfl⟩ | ⟨p1, p2⟩
    · have e := hR.2.2.2 i (by omega)
      rcases of_d w 1 2 rfl (by decide) with ⟨c, hc2, rfl⟩ | ⟨q1, q2⟩
      · by_cases z : I (14 + 4 * a + 1) i = -1
        · refine Both_0 (-1) h ?_ ?_
          · refine callF_at (by omega) (by decide) (Nat.le_of_ble_eq_true rfl) (fun d _ => ?_)
            show Ev X d 145 0 [.ref 0, .int (nI a), .int (nI i), .int (nI c), .retAddr 0, .retAddr 0, .retAddr 0] [] ( mk I J) _
            simp (disch := first | omega | assumption | exact rfl) only [U_145_0, U_145_1, U_145_2, U_145_4, U_145_5, XX, QQ, WW, KK, QX, SHs, RRs, Nat.reduceAdd, Nat.reduceMul, Nat.reduceLeDiff, Nat.reduceEqDiff, List.length_cons, List.length_nil, decide_true, decide_false, Bool.true_and, Bool.and_true, Bool.false_and, Bool.and_false, false_and, and_false, Bool.false_eq_true, Bool.true_eq_false, reduceCtorEq, eq_self, if_true, if_false, true_and, and_true, not_true_eq_false, not_false_eq_true, if_pos, if_neg, z_ite_not, false_or, or_false, true_or, or_true, SWs, swk_0, swk_1, s_isOf, WLs, hc, z]
          · refine callF_at (by omega) (by decide) (Nat.le_of_ble_eq_true rfl) (fun d _ => ?_)
            show Ev X d 253 0 [.ref 177, .int (nI a), .int (nI i), .int (nI c), .retAddr 0, .retAddr 0, .retAddr 0, .retAddr 0, .retAddr 0, .retAddr 0, .retAddr 0, .retAddr 0] [] ( mk I J) _
            have ic := r_isCellOf (X := X) (d := d) (J := J) (v := nI i) (by omega) ha hR
            rw [z] at e
            simp (disch := first | omega | assumption | exact rfl) only [U_253_0, U_253_1, U_253_3, XX, QQ, WW, KK, QX, SHs, RRs, Nat.reduceAdd, Nat.reduceMul, Nat.reduceLeDiff, Nat.reduceEqDiff, List.length_cons, List.length_nil, decide_true, decide_false, Bool.true_and, Bool.and_true, Bool.false_and, Bool.and_false, false_and, and_false, Bool.false_eq_true, Bool.true_eq_false, reduceCtorEq, eq_self, if_true, if_false, true_and, and_true, not_true_eq_false, not_false_eq_true, if_pos, if_neg, z_ite_not, false_or, or_false, true_or, or_true, SWs, swk_0, swk_1, ic, r_brick, e]
        · obtain ⟨B, hBe⟩ : ∃ B, B = I (14 + 4 * a + 1) := ⟨_, rfl⟩
          rw [← hBe] at hB hR z
          obtain ⟨i1, i2⟩ := door_iso h24 (WB_del (i := i) hB)
          obtain ⟨p1, p2, p3⟩ := pl_spec hi
          have hp : I (14 + 4 * a + 2) i = nI (pl (FW a) i) := hG.2.2.2.2.2.1 i hi
          refine Both_q (if c = 0 then nI (fb_ct (fun p => cd (rep (fun z => (ins (FW a) (va_up B i (-1))).testBit z = true) (fun o c => (nr (FW a) (va_up B i (-1)) o).testBit c = true) p)) 24) else nI (fb_ct (fun b => cd ((ins (FW a) (va_up B i (-1))).testBit b = true ∧ nr (FW a) (va_up B i (-1)) b = 0)) 24)) h ⟨I, J, ?_, FC_refl I J⟩ (fun I1 J1 _ hF => r_door (by omega) ha hc2 (by rw [hF.1 _ (by omega)]; exact hR) hB hi z)
          refine callF_at (by omega) (by decide) (Nat.le_of_ble_eq_true rfl) (fun d _ => ?_)
          show Ev X d 145 0 [.ref 0, .int (nI a), .int (nI i), .int (nI c), .retAddr 0, .retAddr 0, .retAddr 0] [] ( mk I J) _
          have sf := s_filled (X := X) (d := d) (by omega) hG
          rw [k_I, ← hBe] at sf
          have pw : 1 * 2 ^ pl (FW a) i < 2 ^ 64 := by rw [Nat.one_mul]; exact pw_lt p1
          have nl := l_not pw
          have fd := fil_del (B := B) hi
          have f64 := fil_lt (FW a) (va_up B i (-1))
          have sp := s_parts (X := X) (d := d) (M := mk I J) (by omega) f64
          have sl := s_lonely (X := X) (d := d) (M := mk I J) (by omega) f64
          rw [i1] at sp
          rw [i2] at sl
          rw [hBe] at z
          by_cases c0 : c = 0
          · subst c0
            simp (disch := first | omega | assumption | exact rfl) only [U_145_0, U_145_1, U_145_2, U_145_4, U_145_6, U_145_7, U_145_8, U_145_9, XX, QQ, WW, KK, QX, SHs, RRs, Nat.reduceAdd, Nat.reduceMul, Nat.reduceLeDiff, Nat.reduceEqDiff, List.length_cons, List.length_nil, decide_true, decide_false, Bool.true_and, Bool.and_true, Bool.false_and, Bool.and_false, false_and, and_false, Bool.false_eq_true, Bool.true_eq_false, reduceCtorEq, eq_self, if_true, if_false, true_and, and_true, not_true_eq_false, not_false_eq_true, if_pos, if_neg, z_ite_not, false_or, or_false, true_or, or_true, SWs, swk_0, swk_1, s_isOf, WLs, hc, z, sf, hp, nl, fb_andL, fd, sp]
          · rw [if_neg c0]
            simp (disch := first | omega | assumption | exact rfl) only [U_145_0, U_145_1, U_145_2, U_145_4, U_145_6, U_145_7, U_145_8, U_145_9, XX, QQ, WW, KK, QX, SHs, RRs, Nat.reduceAdd, Nat.reduceMul, Nat.reduceLeDiff, Nat.reduceEqDiff, List.length_cons, List.length_nil, decide_true, decide_false, Bool.true_and, Bool.and_true, Bool.false_and, Bool.and_false, false_and, and_false, Bool.false_eq_true, Bool.true_eq_false, reduceCtorEq, eq_self, if_true, if_false, true_and, and_true, not_true_eq_false, not_false_eq_true, if_pos, if_neg, z_ite_not, false_or, or_false, true_or, or_true, SWs, swk_0, swk_1, s_isOf, WLs, hc, z, sf, hp, nl, fb_andL, fd, sl]
      · refine Both_0 (-1) h ?_ ?_
        · refine callF_at (by omega) (by decide) (Nat.le_of_ble_eq_true rfl) (fun d _ => ?_)
          show Ev X d 145 0 [.ref 0, .int (nI a), .int (nI i), .int w, .retAddr 0, .retAddr 0, .retAddr 0] [] ( mk I J) _
          simp (disch := first | omega | assumption | exact rfl) only [U_145_0, U_145_1, U_145_2, U_145_3, XX, QQ, WW, KK, QX, SHs, RRs, Nat.reduceAdd, Nat.reduceMul, Nat.reduceLeDiff, Nat.reduceEqDiff, List.length_cons, List.length_nil, decide_true, decide_false, Bool.true_and, Bool.and_true, Bool.false_and, Bool.and_false, false_and, and_false, Bool.false_eq_true, Bool.true_eq_false, reduceCtorEq, eq_self, if_true, if_false, true_and, and_true, not_true_eq_false, not_false_eq_true, if_pos, if_neg, z_ite_not, false_or, or_false, true_or, or_true, SWs, swk_0, swk_1, s_isOf, WLs, hc, q1]
        · refine callF_at (by omega) (by decide) (Nat.le_of_ble_eq_true rfl) (fun d _ => ?_)
          show Ev X d 253 0 [.ref 177, .int (nI a), .int (nI i), .int w, .retAddr 0, .retAddr 0, .retAddr 0, .retAddr 0, .retAddr 0, .retAddr 0, .retAddr 0, .retAddr 0] [] ( mk I J) _
          have ic := r_isCellOf (X := X) (d := d) (J := J) (v := nI i) (by omega) ha hR
          by_cases z : I (14 + 4 * a + 1) i = -1
          · rw [z] at e
            simp (disch := first | omega | assumption | exact rfl) only [U_253_0, U_253_1, U_253_3, XX, QQ, WW, KK, QX, SHs, RRs, Nat.reduceAdd, Nat.reduceMul, Nat.reduceLeDiff, Nat.reduceEqDiff, List.length_cons, List.length_nil, decide_true, decide_false, Bool.true_and, Bool.and_true, Bool.false_and, Bool.and_false, false_and, and_false, Bool.false_eq_true, Bool.true_eq_false, reduceCtorEq, eq_self, if_true, if_false, true_and, and_true, not_true_eq_false, not_false_eq_true, if_pos, if_neg, z_ite_not, false_or, or_false, true_or, or_true, SWs, swk_0, swk_1, ic, r_brick, e]
          · simp (disch := first | omega | assumption | exact rfl) only [U_253_0, U_253_1, U_253_2, U_253_3, XX, QQ, WW, KK, QX, SHs, RRs, Nat.reduceAdd, Nat.reduceMul, Nat.reduceLeDiff, Nat.reduceEqDiff, List.length_cons, List.length_nil, decide_true, decide_false, Bool.true_and, Bool.and_true, Bool.false_and, Bool.and_false, false_and, and_false, Bool.false_eq_true, Bool.true_eq_false, reduceCtorEq, eq_self, if_true, if_false, true_and, and_true, not_true_eq_false, not_false_eq_true, if_pos, if_neg, z_ite_not, false_or, or_false, true_or, or_true, SWs, swk_0, swk_1, ic, r_brick, e, z, r_isIn, q2]
    · refine Both_0 (-1) h ?_ ?_
      · refine callF_at (by omega) (by decide) (Nat.le_of_ble_eq_true rfl) (fun d _ => ?_)
        show Ev X d 145 0 [.ref 0, .int (nI a), .int v, .int w, .retAddr 0, .retAddr 0, .retAddr 0] [] ( mk I J) _
        simp (disch := first | omega | assumption | exact rfl) only [U_145_0, U_145_1, U_145_2, U_145_3, XX, QQ, WW, KK, QX, SHs, RRs, Nat.reduceAdd, Nat.reduceMul, Nat.reduceLeDiff, Nat.reduceEqDiff, List.length_cons, List.length_nil, decide_true, decide_false, Bool.true_and, Bool.and_true, Bool.false_and, Bool.and_false, false_and, and_false, Bool.false_eq_true, Bool.true_eq_false, reduceCtorEq, eq_self, if_true, if_false, true_and, and_true, not_true_eq_false, not_false_eq_true, if_pos, if_neg, z_ite_not, false_or, or_false, true_or, or_true, SWs, swk_0, swk_1, s_isOf, WLs, hc, p1]
      · refine callF_at (by omega) (by decide) (Nat.le_of_ble_eq_true rfl) (fun d _ => ?_)
        show Ev X d 253 0 [.ref 177, .int (nI a), .int v, .int w, .retAddr 0, .retAddr 0, .retAddr 0, .retAddr 0, .retAddr 0, .retAddr 0, .retAddr 0, .retAddr 0] [] ( mk I J) _
        have ic := r_isCellOf (X := X) (d := d) (J := J) (v := v) (by omega) ha hR
        rw [p2] at ic
        simp (disch := first | omega | assumption | exact rfl) only [U_253_0, U_253_3, XX, QQ, WW, KK, QX, SHs, RRs, Nat.reduceAdd, Nat.reduceMul, Nat.reduceLeDiff, Nat.reduceEqDiff, List.length_cons, List.length_nil, decide_true, decide_false, Bool.true_and, Bool.and_true, Bool.false_and, Bool.and_false, false_and, and_false, Bool.false_eq_true, Bool.true_eq_false, reduceCtorEq, eq_self, if_true, if_false, true_and, and_true, not_true_eq_false, not_false_eq_true, if_pos, if_neg, z_ite_not, false_or, or_false, true_or, or_true, SWs, swk_0, swk_1, ic]
  · refine Both_0 (-1) h ?_ ?_
    · refine callF_at (by omega) (by decide) (Nat.le_of_ble_eq_true rfl) (fun d _ => ?_)
      show Ev X d 145 0 [.ref 0, .int u, .int v, .int w, .retAddr 0, .retAddr 0, .retAddr 0] [] ( mk I J) _
      simp (disch := first | omega | assumption | exact rfl) only [U_145_0, U_145_1, U_145_2, U_145_3, XX, QQ, WW, KK, QX, SHs, RRs, Nat.reduceAdd, Nat.reduceMul, Nat.reduceLeDiff, Nat.reduceEqDiff, List.length_cons, List.length_nil, decide_true, decide_false, Bool.true_and, Bool.and_true, Bool.false_and, Bool.and_false, false_and, and_false, Bool.false_eq_true, Bool.true_eq_false, reduceCtorEq, eq_self, if_true, if_false, true_and, and_true, not_true_eq_false, not_false_eq_true, if_pos, if_neg, z_ite_not, false_or, or_false, true_or, or_true, SWs, swk_0, swk_1, s_isOf, o1]
    · refine callF_at (by omega) (by decide) (Nat.le_of_ble_eq_true rfl) (fun d _ => ?_)
      show Ev X d 253 0 [.ref 177, .int u, .int v, .int w, .retAddr 0, .retAddr 0, .retAddr 0, .retAddr 0, .retAddr 0, .retAddr 0, .retAddr 0, .retAddr 0] [] ( mk I J) _
      simp (disch := first | omega | assumption | exact rfl) only [U_253_0, U_253_3, XX, QQ, WW, KK, QX, SHs, RRs, Nat.reduceAdd, Nat.reduceMul, Nat.reduceLeDiff, Nat.reduceEqDiff, List.length_cons, List.length_nil, decide_true, decide_false, Bool.true_and, Bool.and_true, Bool.false_and, Bool.and_false, false_and, and_false, Bool.false_eq_true, Bool.true_eq_false, reduceCtorEq, eq_self, if_true, if_false, true_and, and_true, not_true_eq_false, not_false_eq_true, if_pos, if_neg, z_ite_not, false_or, or_false, true_or, or_true, SWs, swk_0, swk_1, r_isCellOf_n, o2]
