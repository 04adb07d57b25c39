/-! ===== parting: both ===== -/
theorem m1_c (v : Int32) : v < -1 ∨ v = -1 ∨ (¬ v < -1 ∧ v ≠ -1 ∧ ∃ j, j < 2 ^ 31 ∧ v = nI j) := by
  by_cases a : v < -1
  · exact .inl a
  · by_cases b : v = -1
    · exact .inr (.inl b)
    · right; right
      refine ⟨a, b, ?_⟩
      have n : ¬ v < 0 := fun z => by
        rw [Int32.lt_iff_toInt_lt] at a z
        have e1 : (-1 : Int32).toInt = -1 := by decide +kernel
        have e2 : (0 : Int32).toInt = 0 := by decide +kernel
        exact b (Int32.toInt_inj.mp (by omega))
      obtain ⟨j, q1, q2⟩ := nI_of n
      exact ⟨j, q1, q2⟩
theorem PF_FC {I I' : Nat → Nat → Int32} {J J' : Nat → Nat → Int64} (h : PF I I' J J') : FC I I' J J' := ⟨fun a ha => h.1 a (by omega), fun a ha => h.2 a (by omega)⟩
theorem b_parting {X : Nat × (Nat → Int32)} {d : Nat} {I : Nat → Nat → Int32} {J : Nat → Nat → Int64} {u1 u2 : Int32} (hd : 62 ≤ d) (h : Inv I J) : Both X d 138 244 [.int u1, .int u2] I J := by
  obtain ⟨FS, hs⟩ := Inv_sh h
  rcases of_d u1 5 6 rfl (by decide) with ⟨s, hs6, rfl⟩ | ⟨o1, o2⟩
  · obtain ⟨hF, hj, hRs⟩ := hs s hs6
    have p24 := hRs.1
    have c70 : I 178 (70 + s) = nI (pop (FS s)) := hRs.2.1
    by_cases p0 : pop (FS s) = 0
    · have f0 := (pop_z hF).mp p0
      rw [f0] at hj
      rw [p0] at c70
      refine Both_0 (-1) h ?_ ?_
      · refine callF_at (by omega) (by decide) (Nat.le_of_ble_eq_true rfl) (fun d _ => ?_)
        show Ev X d 138 0 [.ref 0, .int (nI s), .int u2] [] ( mk I J) _
        simp (disch := first | omega | assumption | exact rfl) only [U_138_0, U_138_1, U_138_4, XX, QQ, WW, KK, QX, SHs, RRs, Nat.reduceAdd, Nat.reduceMul, Nat.reduceLeDiff, Nat.reduceEqDiff, List.length_cons, List.length_nil, decide_true, decide_false, Bool.true_and, Bool.and_true, Bool.false_and, Bool.and_false, false_and, and_false, Bool.false_eq_true, Bool.true_eq_false, reduceCtorEq, eq_self, if_true, if_false, true_and, and_true, not_true_eq_false, not_false_eq_true, if_pos, if_neg, z_ite_not, false_or, or_false, true_or, or_true, SWs, swk_0, swk_1, s_isOf, hj, lc0']
      · refine callF_at (by omega) (by decide) (Nat.le_of_ble_eq_true rfl) (fun d _ => ?_)
        show Ev X d 244 0 [.ref 177, .int (nI s), .int u2, .retAddr 0] [] ( mk I J) _
        simp (disch := first | omega | assumption | exact rfl) only [U_244_0, U_244_1, U_244_3, XX, QQ, WW, KK, QX, SHs, RRs, Nat.reduceAdd, Nat.reduceMul, Nat.reduceLeDiff, Nat.reduceEqDiff, List.length_cons, List.length_nil, decide_true, decide_false, Bool.true_and, Bool.and_true, Bool.false_and, Bool.and_false, false_and, and_false, Bool.false_eq_true, Bool.true_eq_false, reduceCtorEq, eq_self, if_true, if_false, true_and, and_true, not_true_eq_false, not_false_eq_true, if_pos, if_neg, z_ite_not, false_or, or_false, true_or, or_true, SWs, swk_0, swk_1, r_isShape, c70]
    · have nz := lc0 hF (fun z => p0 ((pop_z hF).mpr z))
      rcases m1_c u2 with lt | rfl | ⟨nl, ne, c, c31, rfl⟩
      · have e : (decide ((-1 : Int32) ≤ u2) && decide (u2 ≤ nI 12)) = false := by rw [decide_eq_false ((fa_of_lt lt).2.1)]; rfl
        refine Both_0 (-1) h ?_ ?_
        · refine callF_at (by omega) (by decide) (Nat.le_of_ble_eq_true rfl) (fun d _ => ?_)
          show Ev X d 138 0 [.ref 0, .int (nI s), .int u2] [] ( mk I J) _
          simp (disch := first | omega | assumption | exact rfl) only [U_138_0, U_138_1, U_138_2, U_138_4, XX, QQ, WW, KK, QX, SHs, RRs, Nat.reduceAdd, Nat.reduceMul, Nat.reduceLeDiff, Nat.reduceEqDiff, List.length_cons, List.length_nil, decide_true, decide_false, Bool.true_and, Bool.and_true, Bool.false_and, Bool.and_false, false_and, and_false, Bool.false_eq_true, Bool.true_eq_false, reduceCtorEq, eq_self, if_true, if_false, true_and, and_true, not_true_eq_false, not_false_eq_true, if_pos, if_neg, z_ite_not, false_or, or_false, true_or, or_true, SWs, swk_0, swk_1, s_isOf, hj, nz, lt]
        · refine callF_at (by omega) (by decide) (Nat.le_of_ble_eq_true rfl) (fun d _ => ?_)
          show Ev X d 244 0 [.ref 177, .int (nI s), .int u2, .retAddr 0] [] ( mk I J) _
          simp (disch := first | omega | assumption | exact rfl) only [U_244_0, U_244_1, U_244_2, U_244_3, XX, QQ, WW, KK, QX, SHs, RRs, Nat.reduceAdd, Nat.reduceMul, Nat.reduceLeDiff, Nat.reduceEqDiff, List.length_cons, List.length_nil, decide_true, decide_false, Bool.true_and, Bool.and_true, Bool.false_and, Bool.and_false, false_and, and_false, Bool.false_eq_true, Bool.true_eq_false, reduceCtorEq, eq_self, if_true, if_false, true_and, and_true, not_true_eq_false, not_false_eq_true, if_pos, if_neg, z_ite_not, false_or, or_false, true_or, or_true, SWs, swk_0, swk_1, r_isShape, r_isIn, c70, p0, e]
      · -- the most couples
        have e : (decide ((-1 : Int32) ≤ -1) && decide ((-1 : Int32) ≤ nI 12)) = true := by decide +kernel
        have l1 : ¬ (-1 : Int32) < -1 := by decide +kernel
        have l3 : decide ((-1 : Int32) ≤ -1) = true := by decide +kernel
        have l4 : decide ((-1 : Int32) ≤ nI 12) = true := by decide +kernel
        have l2 : (-1 : Int32) ≤ nI 12 := by decide +kernel
        refine Both_q (nI (mo 24 (FS s))) h ?_ (fun I1 J1 h1 f => ?_)
        · obtain ⟨d, rfl⟩ : ∃ d', d = d' + 1 := ⟨d - 1, by omega⟩
          obtain ⟨I', J', t1, t2⟩ := c_mostCouples (X := X) (d := d) (I := I) (J := J) (R := FS s) (by omega) hF p24
          refine ⟨I', J', ?_, PF_FC t2⟩
          refine callF_at (by omega) (by decide) (Nat.le_of_ble_eq_true rfl) (fun d' hd' => ?_)
          obtain rfl : d = d' := by omega
          show Ev X d 138 0 [.ref 0, .int (nI s), .int (-1)] [] (mk I J) _
          simp (disch := first | omega | assumption | exact rfl) only [U_138_0, U_138_1, U_138_2, U_138_3, U_138_5, U_138_6, XX, QQ, WW, KK, QX, SHs, RRs, Nat.reduceAdd, Nat.reduceMul, Nat.reduceLeDiff, Nat.reduceEqDiff, List.length_cons, List.length_nil, decide_true, decide_false, Bool.true_and, Bool.and_true, Bool.false_and, Bool.and_false, false_and, and_false, Bool.false_eq_true, Bool.true_eq_false, reduceCtorEq, eq_self, if_true, if_false, true_and, and_true, not_true_eq_false, not_false_eq_true, if_pos, if_neg, z_ite_not, false_or, or_false, true_or, or_true, SWs, swk_0, swk_1, s_isOf, hj, nz, l1, l2, t1]
        · obtain ⟨d, rfl⟩ : ∃ d', d = d' + 1 := ⟨d - 1, by omega⟩
          have e178 : I1 178 = I 178 := f.1 178 (by decide)
          obtain ⟨I', t1, t2⟩ := r_mostCouples (X := X) (d := d) (I := I1) (J := J1) (s := s) (F := FS s) (by omega) hs6 hF (by rw [e178]; exact hRs)
          refine ⟨I', ?_, FR_of (fun a h1 h2 => t2 a (by omega) (by omega)) (fun k hk => by rw [t2 177 (by decide) (by decide)])⟩
          refine callF_at (by omega) (by decide) (Nat.le_of_ble_eq_true rfl) (fun d' hd' => ?_)
          obtain rfl : d = d' := by omega
          show Ev X d 244 0 [.ref 177, .int (nI s), .int (-1), .retAddr 0] [] (mk I1 J1) _
          have c70' : I1 178 (70 + s) = nI (pop (FS s)) := by rw [e178]; exact c70
          simp (disch := first | omega | assumption | exact rfl) only [U_244_0, U_244_1, U_244_2, U_244_4, U_244_5, XX, QQ, WW, KK, QX, SHs, RRs, Nat.reduceAdd, Nat.reduceMul, Nat.reduceLeDiff, Nat.reduceEqDiff, List.length_cons, List.length_nil, decide_true, decide_false, Bool.true_and, Bool.and_true, Bool.false_and, Bool.and_false, false_and, and_false, Bool.false_eq_true, Bool.true_eq_false, reduceCtorEq, eq_self, if_true, if_false, true_and, and_true, not_true_eq_false, not_false_eq_true, if_pos, if_neg, z_ite_not, false_or, or_false, true_or, or_true, SWs, swk_0, swk_1, r_isShape, r_isIn, c70', p0, e, l3, l4, t1]
      · have cn : ¬ nI c = -1 := nI_ne c31
        by_cases c12 : c ≤ 12
        · have e : (decide ((-1 : Int32) ≤ nI c) && decide (nI c ≤ nI 12)) = true := by
            have a : (-1 : Int32) ≤ nI c := fa_of_nlt nl
            have b : nI c ≤ nI 12 := by rw [nI_leI c31 (by decide)]; exact c12
            rw [decide_eq_true a, decide_eq_true b]; rfl
          have V25 := sp_lt 24 (FS s)
          refine Both_q (bI ((sp 24 (FS s)).testBit c)) h ?_ (fun I1 J1 h1 f => ?_)
          · obtain ⟨d, rfl⟩ : ∃ d', d = d' + 1 := ⟨d - 1, by omega⟩
            obtain ⟨I', J', t1, t2⟩ := c_couplesSet (X := X) (d := d) (I := I) (J := J) (R := FS s) (by omega) hF p24
            refine ⟨I', J', ?_, PF_FC t2⟩
            refine callF_at (by omega) (by decide) (Nat.le_of_ble_eq_true rfl) (fun d' hd' => ?_)
            obtain rfl : d = d' := by omega
            show Ev X d 138 0 [.ref 0, .int (nI s), .int (nI c)] [] (mk I J) _
            obtain ⟨V, eV⟩ : ∃ V, V = sp 24 (FS s) := ⟨_, rfl⟩
            rw [← eV] at t1 V25 ⊢
            have V32 : V < 2 ^ 32 := by omega
            simp (disch := first | omega | assumption | exact rfl) only [U_138_0, U_138_1, U_138_2, U_138_3, U_138_5, U_138_7, XX, QQ, WW, KK, QX, SHs, RRs, Nat.reduceAdd, Nat.reduceMul, Nat.reduceLeDiff, Nat.reduceEqDiff, List.length_cons, List.length_nil, decide_true, decide_false, Bool.true_and, Bool.and_true, Bool.false_and, Bool.and_false, false_and, and_false, Bool.false_eq_true, Bool.true_eq_false, reduceCtorEq, eq_self, if_true, if_false, true_and, and_true, not_true_eq_false, not_false_eq_true, if_pos, if_neg, z_ite_not, false_or, or_false, true_or, or_true, SWs, swk_0, swk_1, s_isOf, hj, nz, nl, cn, t1]
          · obtain ⟨d, rfl⟩ : ∃ d', d = d' + 1 := ⟨d - 1, by omega⟩
            have e178 : I1 178 = I 178 := f.1 178 (by decide)
            obtain ⟨I2, eI2⟩ : ∃ I2, I2 = va_up I1 194 (fillI 24 (nI 0) (I1 194)) := ⟨_, rfl⟩
            have t1 := r_parts (X := X) (J := J1) (s := s) (F := FS s) hs6 24 (FS s) c d I2 (by rw [eI2, vu_ne (by decide), e178]; exact hRs) hF (fun k hk => hk) (fun i hi => by
              rw [eI2, vu_eq]; unfold fillI; rw [if_pos (by omega), (pl_spec hi).2.1]; rfl) p24 (by decide) c12 (by omega)
            refine ⟨I2, ?_, FR_of (fun a h1 h2 => by rw [eI2, vu_ne (by omega)]) (fun k hk => by rw [eI2, vu_ne (by decide)])⟩
            refine callF_at (by omega) (by decide) (Nat.le_of_ble_eq_true rfl) (fun d' hd' => ?_)
            obtain rfl : d = d' := by omega
            show Ev X d 244 0 [.ref 177, .int (nI s), .int (nI c), .retAddr 0] [] (mk I1 J1) _
            have c70' : I1 178 (70 + s) = nI (pop (FS s)) := by rw [e178]; exact c70
            have c70'' : I2 178 (70 + s) = nI (pop (FS s)) := by rw [eI2, vu_ne (by decide)]; exact c70'
            have nine : Ev X d 244 9 [.ref 177, .int (nI s), .int (nI c), .int (nI 24)] [] (mk I2 J1) (some (.int (bI ((sp 24 (FS s)).testBit c))), mk I2 J1) := by
              cases w : (sp 24 (FS s)).testBit c with
              | true =>
                rw [w] at t1
                simp (disch := first | omega | assumption | exact rfl) only [U_244_9, U_244_10, U_244_12, XX, QQ, WW, KK, QX, SHs, RRs, Nat.reduceAdd, Nat.reduceMul, Nat.reduceLeDiff, Nat.reduceEqDiff, List.length_cons, List.length_nil, decide_true, decide_false, Bool.true_and, Bool.and_true, Bool.false_and, Bool.and_false, false_and, and_false, Bool.false_eq_true, Bool.true_eq_false, reduceCtorEq, eq_self, if_true, if_false, true_and, and_true, not_true_eq_false, not_false_eq_true, if_pos, if_neg, z_ite_not, false_or, or_false, true_or, or_true, SWs, swk_0, swk_1, c70'', t1]
              | false =>
                rw [w] at t1
                simp (disch := first | omega | assumption | exact rfl) only [U_244_9, U_244_11, U_244_12, XX, QQ, WW, KK, QX, SHs, RRs, Nat.reduceAdd, Nat.reduceMul, Nat.reduceLeDiff, Nat.reduceEqDiff, List.length_cons, List.length_nil, decide_true, decide_false, Bool.true_and, Bool.and_true, Bool.false_and, Bool.and_false, false_and, and_false, Bool.false_eq_true, Bool.true_eq_false, reduceCtorEq, eq_self, if_true, if_false, true_and, and_true, not_true_eq_false, not_false_eq_true, if_pos, if_neg, z_ite_not, false_or, or_false, true_or, or_true, SWs, swk_0, swk_1, c70'', t1]
            have lp : Ev X d 244 7 [.ref 177, .int (nI s), .int (nI c), .int (nI 0)] [] (mk I1 J1) (some (.int (bI ((sp 24 (FS s)).testBit c))), mk I2 J1) := by
              refine lpI (n := 24) (P := fun j => Ev X d 244 7 [.ref 177, .int (nI s), .int (nI c), .int (nI j)] [] (mk (va_up I1 194 (fillI j (nI 0) (I1 194))) J1) (some (.int (bI ((sp 24 (FS s)).testBit c))), mk I2 J1)) ?_ ?_ (fun Q => by rw [fillI_0, vu_id] at Q; exact Q)
              · rw [← eI2, U_244_7]
                simp (disch := first | omega | assumption | exact rfl) only [U_244_7, XX, QQ, WW, KK, QX, SHs, RRs, Nat.reduceAdd, Nat.reduceMul, Nat.reduceLeDiff, Nat.reduceEqDiff, List.length_cons, List.length_nil, decide_true, decide_false, Bool.true_and, Bool.and_true, Bool.false_and, Bool.and_false, false_and, and_false, Bool.false_eq_true, Bool.true_eq_false, reduceCtorEq, eq_self, if_true, if_false, true_and, and_true, not_true_eq_false, not_false_eq_true, if_pos, if_neg, z_ite_not, false_or, or_false, true_or, or_true, SWs, swk_0, swk_1]
                exact nine
              · intro j hj IH
                rw [← fillI_s] at IH
                rw [U_244_7]
                simp (disch := first | omega | assumption | exact rfl) only [U_244_8, XX, QQ, WW, KK, QX, SHs, RRs, Nat.reduceAdd, Nat.reduceMul, Nat.reduceLeDiff, Nat.reduceEqDiff, List.length_cons, List.length_nil, decide_true, decide_false, Bool.true_and, Bool.and_true, Bool.false_and, Bool.and_false, false_and, and_false, Bool.false_eq_true, Bool.true_eq_false, reduceCtorEq, eq_self, if_true, if_false, true_and, and_true, not_true_eq_false, not_false_eq_true, if_pos, if_neg, z_ite_not, false_or, or_false, true_or, or_true, SWs, swk_0, swk_1]
                exact IH
            simp (disch := first | omega | assumption | exact rfl) only [U_244_0, U_244_1, U_244_2, U_244_4, U_244_6, XX, QQ, WW, KK, QX, SHs, RRs, Nat.reduceAdd, Nat.reduceMul, Nat.reduceLeDiff, Nat.reduceEqDiff, List.length_cons, List.length_nil, decide_true, decide_false, Bool.true_and, Bool.and_true, Bool.false_and, Bool.and_false, false_and, and_false, Bool.false_eq_true, Bool.true_eq_false, reduceCtorEq, eq_self, if_true, if_false, true_and, and_true, not_true_eq_false, not_false_eq_true, if_pos, if_neg, z_ite_not, false_or, or_false, true_or, or_true, SWs, swk_0, swk_1, r_isShape, r_isIn, c70', p0, e, cn]
            exact lp
        · have e : (decide ((-1 : Int32) ≤ nI c) && decide (nI c ≤ nI 12)) = false := by
            have b : ¬ nI c ≤ nI 12 := by rw [nI_leI c31 (by decide)]; exact c12
            rw [decide_eq_false b, Bool.and_false]
          refine Both_0 (-1) h ?_ ?_
          · refine callF_at (by omega) (by decide) (Nat.le_of_ble_eq_true rfl) (fun d _ => ?_)
            show Ev X d 138 0 [.ref 0, .int (nI s), .int (nI c)] [] ( mk I J) _
            simp (disch := first | omega | assumption | exact rfl) only [U_138_0, U_138_1, U_138_2, U_138_3, U_138_4, XX, QQ, WW, KK, QX, SHs, RRs, Nat.reduceAdd, Nat.reduceMul, Nat.reduceLeDiff, Nat.reduceEqDiff, List.length_cons, List.length_nil, decide_true, decide_false, Bool.true_and, Bool.and_true, Bool.false_and, Bool.and_false, false_and, and_false, Bool.false_eq_true, Bool.true_eq_false, reduceCtorEq, eq_self, if_true, if_false, true_and, and_true, not_true_eq_false, not_false_eq_true, if_pos, if_neg, z_ite_not, false_or, or_false, true_or, or_true, SWs, swk_0, swk_1, s_isOf, hj, nz, nl, c12]
          · refine callF_at (by omega) (by decide) (Nat.le_of_ble_eq_true rfl) (fun d _ => ?_)
            show Ev X d 244 0 [.ref 177, .int (nI s), .int (nI c), .retAddr 0] [] ( mk I J) _
            simp (disch := first | omega | assumption | exact rfl) only [U_244_0, U_244_1, U_244_2, U_244_3, XX, QQ, WW, KK, QX, SHs, RRs, Nat.reduceAdd, Nat.reduceMul, Nat.reduceLeDiff, Nat.reduceEqDiff, List.length_cons, List.length_nil, decide_true, decide_false, Bool.true_and, Bool.and_true, Bool.false_and, Bool.and_false, false_and, and_false, Bool.false_eq_true, Bool.true_eq_false, reduceCtorEq, eq_self, if_true, if_false, true_and, and_true, not_true_eq_false, not_false_eq_true, if_pos, if_neg, z_ite_not, false_or, or_false, true_or, or_true, SWs, swk_0, swk_1, r_isShape, r_isIn, c70, p0, e]
  · refine Both_0 (-1) h ?_ ?_
    · refine callF_at (by omega) (by decide) (Nat.le_of_ble_eq_true rfl) (fun d _ => ?_)
      show Ev X d 138 0 [.ref 0, .int u1, .int u2] [] ( mk I J) _
      simp (disch := first | omega | assumption | exact rfl) only [U_138_0, U_138_4, XX, QQ, WW, KK, QX, SHs, RRs, Nat.reduceAdd, Nat.reduceMul, Nat.reduceLeDiff, Nat.reduceEqDiff, List.length_cons, List.length_nil, decide_true, decide_false, Bool.true_and, Bool.and_true, Bool.false_and, Bool.and_false, false_and, and_false, Bool.false_eq_true, Bool.true_eq_false, reduceCtorEq, eq_self, if_true, if_false, true_and, and_true, not_true_eq_false, not_false_eq_true, if_pos, if_neg, z_ite_not, false_or, or_false, true_or, or_true, SWs, swk_0, swk_1, s_isOf, o1]
    · refine callF_at (by omega) (by decide) (Nat.le_of_ble_eq_true rfl) (fun d _ => ?_)
      show Ev X d 244 0 [.ref 177, .int u1, .int u2, .retAddr 0] [] ( mk I J) _
      simp (disch := first | omega | assumption | exact rfl) only [U_244_0, U_244_3, XX, QQ, WW, KK, QX, SHs, RRs, Nat.reduceAdd, Nat.reduceMul, Nat.reduceLeDiff, Nat.reduceEqDiff, List.length_cons, List.length_nil, decide_true, decide_false, Bool.true_and, Bool.and_true, Bool.false_and, Bool.and_false, false_and, and_false, Bool.false_eq_true, Bool.true_eq_false, reduceCtorEq, eq_self, if_true, if_false, true_and, and_true, not_true_eq_false, not_false_eq_true, if_pos, if_neg, z_ite_not, false_or, or_false, true_or, or_true, SWs, swk_0, swk_1, r_isShape, o2]
