/-! ===== a condition: class and reference ===== -/
section CND
variable {X : Nat × (Nat → Int32)} {tp : Nat → Nat} {tl m o : Nat}
theorem RPs_d {I : Nat → Nat → Int32} {Q : List (Nat × Nat)} {o' : Nat} (h : RPs I tp tl m Q o) : RPs (va_up I 177 (va_up (I 177) 20 (nI o'))) tp tl m Q o' ∧ RFr I (va_up I 177 (va_up (I 177) 20 (nI o'))) := by
  obtain ⟨h1, ⟨w, w1, w2, w3⟩, h3, h4, h5, h6, h8⟩ := h
  refine ⟨⟨⟨h1.1, ?_, fun i hi => ?_⟩, ⟨w, w1, w2, ?_⟩, ?_, h4, ?_, ?_, ?_⟩, fun a a1 a2 => vu_ne a1, fun k k1 k2 k3 k4 k5 k6 k7 => by rw [vu_eq, vu_ne k7]⟩
  · rw [vu_eq, vu_ne (by decide)]; exact h1.2.1
  · rw [vu_ne (by decide)]; exact h1.2.2 i hi
  · rw [vu_eq, vu_ne (by decide)]; exact w3
  · unfold RCur; rw [vu_eq, vu_ne (by decide), vu_ne (by decide), vu_ne (by decide), vu_ne (by decide)]; exact h3
  · rw [vu_eq, vu_ne (by decide)]; exact h5
  · rw [vu_ne (by decide)]; exact h6
  · rw [vu_eq, vu_eq]
theorem r_opens {d : Nat} {I : Nat → Nat → Int32} {J : Nat → Nat → Int64} {Q : List (Nat × Nat)} (hd : 15 ≤ d) (h : RPs I tp tl m Q o) (ho : o < 8) (hm : m < tkT tp tl) : ∃ I', callF X d 173 [.ref 177] (mk I J) = some (some (.int (nI 1)), mk I' J) ∧ RFr I I' ∧ RPs I' tp tl (m + 1) Q (o + 1) := by
  obtain ⟨d, rfl⟩ : ∃ d', d = d' + 1 := ⟨d - 1, by omega⟩
  have h8 : I 177 20 = nI o := h.2.2.2.2.2.2
  obtain ⟨s1, f1⟩ := RPs_d (o' := o + 1) h
  obtain ⟨I2, e2, f2, s2⟩ := r_nx (X := X) (d := d) (J := J) (by omega) s1 hm
  refine ⟨I2, ?_, RFr_trans f1 f2, s2⟩
  refine callF_of (by decide) (Nat.le_of_ble_eq_true rfl) ?_
  show Ev X d 173 0 [.ref 177] [] ( mk I J) _
  have z1 : ¬ o = 8 := by omega
  simp (disch := first | omega | assumption | exact rfl) only [U_173_0, U_173_2, XX, QQ, WW, KK, QX, SHs, RRs, Nat.reduceAdd, Nat.reduceMul, Nat.reduceLeDiff, Nat.reduceEqDiff, List.length_cons, List.length_nil, decide_true, decide_false, Bool.true_and, Bool.and_true, Bool.false_and, Bool.and_false, false_and, and_false, Bool.false_eq_true, Bool.true_eq_false, reduceCtorEq, eq_self, if_true, if_false, true_and, and_true, not_true_eq_false, not_false_eq_true, if_pos, if_neg, z_ite_not, false_or, or_false, true_or, or_true, SWs, swk_0, swk_1, h8, z1, e2]
theorem r_opens8 {d : Nat} {I : Nat → Nat → Int32} {J : Nat → Nat → Int64} {Q : List (Nat × Nat)} (hd : 15 ≤ d) (h : RPs I tp tl m Q 8) : ∃ I', callF X d 173 [.ref 177] (mk I J) = some (some (.int (nI 0)), mk I' J) ∧ RFl I I' 3 (tpo tp tl m) := by
  obtain ⟨d, rfl⟩ : ∃ d', d = d' + 1 := ⟨d - 1, by omega⟩
  have h8 : I 177 20 = nI 8 := h.2.2.2.2.2.2
  obtain ⟨k5, k6, k7⟩ := RPs_k h
  obtain ⟨I1, e1, f1⟩ := r_bad (X := X) (d := d) (I := I) (J := J) (k := 3) (p := tpo tp tl m) (by omega) k6
  refine ⟨I1, ?_, f1⟩
  refine callF_of (by decide) (Nat.le_of_ble_eq_true rfl) ?_
  show Ev X d 173 0 [.ref 177] [] ( mk I J) _
  simp (disch := first | omega | assumption | exact rfl) only [U_173_0, U_173_1, XX, QQ, WW, KK, QX, SHs, RRs, Nat.reduceAdd, Nat.reduceMul, Nat.reduceLeDiff, Nat.reduceEqDiff, List.length_cons, List.length_nil, decide_true, decide_false, Bool.true_and, Bool.and_true, Bool.false_and, Bool.and_false, false_and, and_false, Bool.false_eq_true, Bool.true_eq_false, reduceCtorEq, eq_self, if_true, if_false, true_and, and_true, not_true_eq_false, not_false_eq_true, if_pos, if_neg, z_ite_not, false_or, or_false, true_or, or_true, SWs, swk_0, swk_1, h8, e1]
/-- class 62 at the eighth that is open -/
theorem c_open8 {d k : Nat} {I : Nat → Nat → Int32} {J : Nat → Nat → Int64} {W : List Int32} (hd : 2 ≤ d) (h : CPs I tp tl m W) : ∃ I', callF X d 62 [.ref 124, .int (nI k), .int (nI 8)] (mk I J) = some (some (.int (nI 0)), mk I' J) ∧ CGl I I' 3 (tpo tp tl m) := by
  obtain ⟨d, rfl⟩ : ∃ d', d = d' + 1 := ⟨d - 1, by omega⟩
  obtain ⟨k5, k6, k7⟩ := CPs_k h
  obtain ⟨I1, e1, f1⟩ := c_flG (X := X) (d := d) (I := I) (J := J) (k := 3) (p := tpo tp tl m) (by omega) h
  refine ⟨I1, ?_, f1⟩
  refine callF_of (by decide) (Nat.le_of_ble_eq_true rfl) ?_
  show Ev X d 62 0 [.ref 124, .int (nI k), .int (nI 8)] [] ( mk I J) _
  simp (disch := first | omega | assumption | exact rfl) only [U_62_0, U_62_1, XX, QQ, WW, KK, QX, SHs, RRs, Nat.reduceAdd, Nat.reduceMul, Nat.reduceLeDiff, Nat.reduceEqDiff, List.length_cons, List.length_nil, decide_true, decide_false, Bool.true_and, Bool.and_true, Bool.false_and, Bool.and_false, false_and, and_false, Bool.false_eq_true, Bool.true_eq_false, reduceCtorEq, eq_self, if_true, if_false, true_and, and_true, not_true_eq_false, not_false_eq_true, if_pos, if_neg, z_ite_not, false_or, or_false, true_or, or_true, SWs, swk_0, swk_1, k6, e1]
theorem cond_not (ho : o ≤ 8) (h2 : m ≤ tkT tp tl) (kn : psK tp tl m = 270) (hC : o < 8 → ∀ m, m ≤ tkT tp tl → Outc X (4 * (7 - o) + 6) 61 [.ref 124, .int (nI (o + 1))] (3 * (7 - o) + 20) 179 tp tl m (o + 1) (2 * (o + 1) + 2) true) : Outc X (4 * (8 - o) + 6) 61 [.ref 124, .int (nI o)] (3 * (8 - o) + 20) 179 tp tl m o (2 * o + 2) true := by
  have hm := psK_lt h2 (by omega)
  have cw : ∀ (d : Nat) (I I2 : Nat → Nat → Int32) (J : Nat → Nat → Int64) (W : List Int32) (r : Option Value × Mem), CPs I tp tl m W → callF X d 62 [.ref 124, .int (nI 270), .int (nI o)] (mk I J) = some (some (.int (nI 0)), mk I2 J) → callF X (d + 1) 61 [.ref 124, .int (nI o)] (mk I J) = some (some (.int (nI 0)), mk I2 J) := by
    intro d I I2 J W r h e
    obtain ⟨k5, k6, k7⟩ := CPs_k h
    refine callF_of (by decide) (Nat.le_of_ble_eq_true rfl) ?_
    show Ev X d 61 0 [.ref 124, .int (nI o), .retAddr 0] [] ( mk I J) _
    simp (disch := first | omega | assumption | exact rfl) only [U_61_0, U_61_2, XX, QQ, WW, KK, QX, SHs, RRs, Nat.reduceAdd, Nat.reduceMul, Nat.reduceLeDiff, Nat.reduceEqDiff, List.length_cons, List.length_nil, decide_true, decide_false, Bool.true_and, Bool.and_true, Bool.false_and, Bool.and_false, false_and, and_false, Bool.false_eq_true, Bool.true_eq_false, reduceCtorEq, eq_self, if_true, if_false, true_and, and_true, not_true_eq_false, not_false_eq_true, if_pos, if_neg, z_ite_not, false_or, or_false, true_or, or_true, SWs, swk_0, swk_1, k5, kn, e]
  have cw1 : ∀ (d : Nat) (I I2 : Nat → Nat → Int32) (J : Nat → Nat → Int64) (W : List Int32), CPs I tp tl m W → callF X d 62 [.ref 124, .int (nI 270), .int (nI o)] (mk I J) = some (some (.int (nI 1)), mk I2 J) → callF X (d + 1) 61 [.ref 124, .int (nI o)] (mk I J) = some (some (.int (nI 1)), mk I2 J) := by
    intro d I I2 J W h e
    obtain ⟨k5, k6, k7⟩ := CPs_k h
    refine callF_of (by decide) (Nat.le_of_ble_eq_true rfl) ?_
    show Ev X d 61 0 [.ref 124, .int (nI o), .retAddr 0] [] ( mk I J) _
    simp (disch := first | omega | assumption | exact rfl) only [U_61_0, U_61_2, XX, QQ, WW, KK, QX, SHs, RRs, Nat.reduceAdd, Nat.reduceMul, Nat.reduceLeDiff, Nat.reduceEqDiff, List.length_cons, List.length_nil, decide_true, decide_false, Bool.true_and, Bool.and_true, Bool.false_and, Bool.and_false, false_and, and_false, Bool.false_eq_true, Bool.true_eq_false, reduceCtorEq, eq_self, if_true, if_false, true_and, and_true, not_true_eq_false, not_false_eq_true, if_pos, if_neg, z_ite_not, false_or, or_false, true_or, or_true, SWs, swk_0, swk_1, k5, kn, e]
  by_cases o8 : o = 8
  · subst o8
    refine .inl ⟨3, tpo tp tl m, fun d I J W hd h hw => ?_, fun d I J Q hd h hq => ?_⟩
    · obtain ⟨d, rfl⟩ : ∃ d', d = d' + 1 := ⟨d - 1, by omega⟩
      obtain ⟨I1, e1, f1⟩ := c_open8 (X := X) (d := d) (J := J) (k := 270) (by omega) h
      exact ⟨I1, cw d I I1 J W (none, mk I J) h e1, f1⟩
    · obtain ⟨d, rfl⟩ : ∃ d', d = d' + 1 := ⟨d - 1, by omega⟩
      obtain ⟨k5, k6, k7⟩ := RPs_k h
      have k9 : I 177 14 = nI 6 := by rw [k5, kn]; rfl
      obtain ⟨I1, e1, f1⟩ := r_opens8 (X := X) (d := d) (J := J) (by omega) h
      refine ⟨I1, ?_, f1⟩
      refine callF_of (by decide) (Nat.le_of_ble_eq_true rfl) ?_
      show Ev X d 179 0 [.ref 177, .retAddr 0] [] ( mk I J) _
      simp (disch := first | omega | assumption | exact rfl) only [U_179_0, U_179_1, U_179_3, XX, QQ, WW, KK, QX, SHs, RRs, Nat.reduceAdd, Nat.reduceMul, Nat.reduceLeDiff, Nat.reduceEqDiff, List.length_cons, List.length_nil, decide_true, decide_false, Bool.true_and, Bool.and_true, Bool.false_and, Bool.and_false, false_and, and_false, Bool.false_eq_true, Bool.true_eq_false, reduceCtorEq, eq_self, if_true, if_false, true_and, and_true, not_true_eq_false, not_false_eq_true, if_pos, if_neg, z_ite_not, false_or, or_false, true_or, or_true, SWs, swk_0, swk_1, k9, e1]
  · have o7 : o < 8 := by omega
    rcases hC o7 (m + 1) (by omega) with ⟨k, p, c1, c2⟩ | ⟨m1, S1, p1, p2, p3, p4, p5, p6⟩
    · refine .inl ⟨k, p, fun d I J W hd h hw => ?_, fun d I J Q hd h hq => ?_⟩
      · obtain ⟨d, rfl⟩ : ∃ d', d = d' + 1 + 1 := ⟨d - 2, by omega⟩
        obtain ⟨I1, e1, f1, s1⟩ := c_nx (X := X) (d := d) (J := J) (by omega) h hm
        obtain ⟨I2, e2, f2⟩ := c1 d I1 J W (by omega) s1 (by omega)
        refine ⟨I2, cw (d + 1) I I2 J W (none, mk I J) h ?_, CGl_after f1 f2⟩
        refine callF_of (by decide) (Nat.le_of_ble_eq_true rfl) ?_
        show Ev X d 62 0 [.ref 124, .int (nI 270), .int (nI o)] [] ( mk I J) _
        simp (disch := first | omega | assumption | exact rfl) only [U_62_0, U_62_2, U_62_8, U_62_9, XX, QQ, WW, KK, QX, SHs, RRs, Nat.reduceAdd, Nat.reduceMul, Nat.reduceLeDiff, Nat.reduceEqDiff, List.length_cons, List.length_nil, decide_true, decide_false, Bool.true_and, Bool.and_true, Bool.false_and, Bool.and_false, false_and, and_false, Bool.false_eq_true, Bool.true_eq_false, reduceCtorEq, eq_self, if_true, if_false, true_and, and_true, not_true_eq_false, not_false_eq_true, if_pos, if_neg, z_ite_not, false_or, or_false, true_or, or_true, SWs, swk_0, swk_1, e1, e2]
      · obtain ⟨d, rfl⟩ : ∃ d', d = d' + 1 := ⟨d - 1, by omega⟩
        obtain ⟨k5, k6, k7⟩ := RPs_k h
        have k9 : I 177 14 = nI 6 := by rw [k5, kn]; rfl
        obtain ⟨I1, e1, f1, s1⟩ := r_opens (X := X) (d := d) (J := J) (by omega) h o7 hm
        obtain ⟨I2, e2, f2⟩ := c2 d I1 J Q (by omega) s1 (by omega)
        refine ⟨I2, ?_, RFl_after f1 f2⟩
        refine callF_of (by decide) (Nat.le_of_ble_eq_true rfl) ?_
        show Ev X d 179 0 [.ref 177, .retAddr 0] [] ( mk I J) _
        simp (disch := first | omega | assumption | exact rfl) only [U_179_0, U_179_1, U_179_2, U_179_3, XX, QQ, WW, KK, QX, SHs, RRs, Nat.reduceAdd, Nat.reduceMul, Nat.reduceLeDiff, Nat.reduceEqDiff, List.length_cons, List.length_nil, decide_true, decide_false, Bool.true_and, Bool.and_true, Bool.false_and, Bool.and_false, false_and, and_false, Bool.false_eq_true, Bool.true_eq_false, reduceCtorEq, eq_self, if_true, if_false, true_and, and_true, not_true_eq_false, not_false_eq_true, if_pos, if_neg, z_ite_not, false_or, or_false, true_or, or_true, SWs, swk_0, swk_1, k9, e1, e2]
    · have cl := segC_l S1
      have sop : segC [(13, 0)] = [-(nI 270)] := rfl
      refine .inr ⟨m1, S1 ++ [(13, 0)], p1, by omega, ?_, fun K hK => ?_, fun d I J W hd h hw => ?_, fun d I J Q hd h hq => ?_⟩
      · rw [segC_app, sop, List.length_append]; show _ + 1 + m ≤ m1; omega
      · rw [ak_then (p4 K (by omega)), ak_c (K' := true :: K) rfl]; rfl
      · obtain ⟨d, rfl⟩ : ∃ d', d = d' + 1 + 1 := ⟨d - 2, by omega⟩
        obtain ⟨I1, e1, f1, s1⟩ := c_nx (X := X) (d := d) (J := J) (by omega) h hm
        obtain ⟨I2, e2, f2, s2⟩ := p5 d I1 J W (by omega) s1 (by omega)
        obtain ⟨t1, t2⟩ := T400 s2
        obtain ⟨I3, e3, f3, s3⟩ := c_wr (X := X) (d := d) (J := J) (x := -(nI 270)) (by omega) s2 (by rw [List.length_append]; omega)
        rw [segC_app, sop, ← List.append_assoc]
        refine ⟨I3, cw1 (d + 1) I I3 J W h ?_, CFr_trans f1 (CFr_trans f2 f3), s3⟩
        refine callF_of (by decide) (Nat.le_of_ble_eq_true rfl) ?_
        show Ev X d 62 0 [.ref 124, .int (nI 270), .int (nI o)] [] ( mk I J) _
        simp (disch := first | omega | assumption | exact rfl) only [U_62_0, U_62_2, U_62_8, U_62_10, XX, QQ, WW, KK, QX, SHs, RRs, Nat.reduceAdd, Nat.reduceMul, Nat.reduceLeDiff, Nat.reduceEqDiff, List.length_cons, List.length_nil, decide_true, decide_false, Bool.true_and, Bool.and_true, Bool.false_and, Bool.and_false, false_and, and_false, Bool.false_eq_true, Bool.true_eq_false, reduceCtorEq, eq_self, if_true, if_false, true_and, and_true, not_true_eq_false, not_false_eq_true, if_pos, if_neg, z_ite_not, false_or, or_false, true_or, or_true, SWs, swk_0, swk_1, e1, e2, e3]
      · obtain ⟨d, rfl⟩ : ∃ d', d = d' + 1 := ⟨d - 1, by omega⟩
        obtain ⟨k5, k6, k7⟩ := RPs_k h
        have k9 : I 177 14 = nI 6 := by rw [k5, kn]; rfl
        obtain ⟨I1, e1, f1, s1⟩ := r_opens (X := X) (d := d) (J := J) (by omega) h o7 hm
        obtain ⟨I2, e2, f2, s2⟩ := p6 d I1 J Q (by omega) s1 (by omega)
        obtain ⟨t1, t2⟩ := RPs_l s2
        have h8 : I2 177 20 = nI (o + 1) := s2.2.2.2.2.2.2
        obtain ⟨s3, f3⟩ := RPs_d (o' := o) s2
        obtain ⟨I4, e4, f4, s4⟩ := r_lay0 (X := X) (d := d) (J := J) (op := 13) (v := nI 0) (x := 0) (by omega) s3 (by rw [List.length_append]; omega) (fun _ => rfl)
        rw [← List.append_assoc]
        refine ⟨I4, ?_, RFr_trans f1 (RFr_trans f2 (RFr_trans f3 f4)), s4⟩
        refine callF_of (by decide) (Nat.le_of_ble_eq_true rfl) ?_
        show Ev X d 179 0 [.ref 177, .retAddr 0] [] ( mk I J) _
        simp (disch := first | omega | assumption | exact rfl) only [U_179_0, U_179_1, U_179_2, U_179_4, XX, QQ, WW, KK, QX, SHs, RRs, Nat.reduceAdd, Nat.reduceMul, Nat.reduceLeDiff, Nat.reduceEqDiff, List.length_cons, List.length_nil, decide_true, decide_false, Bool.true_and, Bool.and_true, Bool.false_and, Bool.and_false, false_and, and_false, Bool.false_eq_true, Bool.true_eq_false, reduceCtorEq, eq_self, if_true, if_false, true_and, and_true, not_true_eq_false, not_false_eq_true, if_pos, if_neg, z_ite_not, false_or, or_false, true_or, or_true, SWs, swk_0, swk_1, k9, e1, e2, h8, Nat.add_sub_cancel, e4]
theorem cond_par (ho : o ≤ 8) (h2 : m ≤ tkT tp tl) (kn : psK tp tl m = 40) (hA : o < 8 → ∀ m, m ≤ tkT tp tl → Outc X (4 * (7 - o) + 8) 60 [.ref 124, .int (nI (o + 1))] (3 * (7 - o) + 22) 177 tp tl m (o + 1) (2 * (o + 1)) true) : Outc X (4 * (8 - o) + 6) 61 [.ref 124, .int (nI o)] (3 * (8 - o) + 20) 179 tp tl m o (2 * o + 2) true := by
  have hm := psK_lt h2 (by omega)
  have cw : ∀ (d : Nat) (I I2 : Nat → Nat → Int32) (J : Nat → Nat → Int64) (W : List Int32) (b : Bool), CPs I tp tl m W → callF X d 62 [.ref 124, .int (nI 40), .int (nI o)] (mk I J) = some (some (.int (bI b)), mk I2 J) → callF X (d + 1) 61 [.ref 124, .int (nI o)] (mk I J) = some (some (.int (bI b)), mk I2 J) := by
    intro d I I2 J W b h e
    obtain ⟨k5, k6, k7⟩ := CPs_k h
    refine callF_of (by decide) (Nat.le_of_ble_eq_true rfl) ?_
    show Ev X d 61 0 [.ref 124, .int (nI o), .retAddr 0] [] ( mk I J) _
    simp (disch := first | omega | assumption | exact rfl) only [U_61_0, U_61_1, U_61_2, XX, QQ, WW, KK, QX, SHs, RRs, Nat.reduceAdd, Nat.reduceMul, Nat.reduceLeDiff, Nat.reduceEqDiff, List.length_cons, List.length_nil, decide_true, decide_false, Bool.true_and, Bool.and_true, Bool.false_and, Bool.and_false, false_and, and_false, Bool.false_eq_true, Bool.true_eq_false, reduceCtorEq, eq_self, if_true, if_false, true_and, and_true, not_true_eq_false, not_false_eq_true, if_pos, if_neg, z_ite_not, false_or, or_false, true_or, or_true, SWs, swk_0, swk_1, k5, kn, e]
  by_cases o8 : o = 8
  · subst o8
    refine .inl ⟨3, tpo tp tl m, fun d I J W hd h hw => ?_, fun d I J Q hd h hq => ?_⟩
    · obtain ⟨d, rfl⟩ : ∃ d', d = d' + 1 := ⟨d - 1, by omega⟩
      obtain ⟨I1, e1, f1⟩ := c_open8 (X := X) (d := d) (J := J) (k := 40) (by omega) h
      exact ⟨I1, cw d I I1 J W false h e1, f1⟩
    · obtain ⟨d, rfl⟩ : ∃ d', d = d' + 1 := ⟨d - 1, by omega⟩
      obtain ⟨k5, k6, k7⟩ := RPs_k h
      have k9 : I 177 14 = nI 140 := by rw [k5, kn]; rfl
      obtain ⟨I1, e1, f1⟩ := r_opens8 (X := X) (d := d) (J := J) (by omega) h
      refine ⟨I1, ?_, f1⟩
      refine callF_of (by decide) (Nat.le_of_ble_eq_true rfl) ?_
      show Ev X d 179 0 [.ref 177, .retAddr 0] [] ( mk I J) _
      simp (disch := first | omega | assumption | exact rfl) only [U_179_0, U_179_5, U_179_6, U_179_9, XX, QQ, WW, KK, QX, SHs, RRs, Nat.reduceAdd, Nat.reduceMul, Nat.reduceLeDiff, Nat.reduceEqDiff, List.length_cons, List.length_nil, decide_true, decide_false, Bool.true_and, Bool.and_true, Bool.false_and, Bool.and_false, false_and, and_false, Bool.false_eq_true, Bool.true_eq_false, reduceCtorEq, eq_self, if_true, if_false, true_and, and_true, not_true_eq_false, not_false_eq_true, if_pos, if_neg, z_ite_not, false_or, or_false, true_or, or_true, SWs, swk_0, swk_1, k9, e1]
  · have o7 : o < 8 := by omega
    rcases hA o7 (m + 1) (by omega) with ⟨k, p, c1, c2⟩ | ⟨m1, S1, p1, p2, p3, p4, p5, p6⟩
    · refine .inl ⟨k, p, fun d I J W hd h hw => ?_, fun d I J Q hd h hq => ?_⟩
      · obtain ⟨d, rfl⟩ : ∃ d', d = d' + 1 + 1 := ⟨d - 2, by omega⟩
        obtain ⟨I1, e1, f1, s1⟩ := c_nx (X := X) (d := d) (J := J) (by omega) h hm
        obtain ⟨I2, e2, f2⟩ := c1 d I1 J W (by omega) s1 (by omega)
        refine ⟨I2, cw (d + 1) I I2 J W false h ?_, CGl_after f1 f2⟩
        refine callF_of (by decide) (Nat.le_of_ble_eq_true rfl) ?_
        show Ev X d 62 0 [.ref 124, .int (nI 40), .int (nI o)] [] ( mk I J) _
        simp (disch := first | omega | assumption | exact rfl) only [U_62_0, U_62_2, U_62_3, U_62_6, U_62_7, XX, QQ, WW, KK, QX, SHs, RRs, Nat.reduceAdd, Nat.reduceMul, Nat.reduceLeDiff, Nat.reduceEqDiff, List.length_cons, List.length_nil, decide_true, decide_false, Bool.true_and, Bool.and_true, Bool.false_and, Bool.and_false, false_and, and_false, Bool.false_eq_true, Bool.true_eq_false, reduceCtorEq, eq_self, if_true, if_false, true_and, and_true, not_true_eq_false, not_false_eq_true, if_pos, if_neg, z_ite_not, false_or, or_false, true_or, or_true, SWs, swk_0, swk_1, e1, e2]
      · obtain ⟨d, rfl⟩ : ∃ d', d = d' + 1 := ⟨d - 1, by omega⟩
        obtain ⟨k5, k6, k7⟩ := RPs_k h
        have k9 : I 177 14 = nI 140 := by rw [k5, kn]; rfl
        obtain ⟨I1, e1, f1, s1⟩ := r_opens (X := X) (d := d) (J := J) (by omega) h o7 hm
        obtain ⟨I2, e2, f2⟩ := c2 d I1 J Q (by omega) s1 (by omega)
        refine ⟨I2, ?_, RFl_after f1 f2⟩
        refine callF_of (by decide) (Nat.le_of_ble_eq_true rfl) ?_
        show Ev X d 179 0 [.ref 177, .retAddr 0] [] ( mk I J) _
        simp (disch := first | omega | assumption | exact rfl) only [U_179_0, U_179_5, U_179_6, U_179_7, U_179_9, XX, QQ, WW, KK, QX, SHs, RRs, Nat.reduceAdd, Nat.reduceMul, Nat.reduceLeDiff, Nat.reduceEqDiff, List.length_cons, List.length_nil, decide_true, decide_false, Bool.true_and, Bool.and_true, Bool.false_and, Bool.and_false, false_and, and_false, Bool.false_eq_true, Bool.true_eq_false, reduceCtorEq, eq_self, if_true, if_false, true_and, and_true, not_true_eq_false, not_false_eq_true, if_pos, if_neg, z_ite_not, false_or, or_false, true_or, or_true, SWs, swk_0, swk_1, k9, e1, e2]
    · have cl := segC_l S1
      have kb := psK_b (tp := tp) (tl := tl) (m := m1)
      by_cases k1 : psK tp tl m1 = 41
      · have hm1 := psK_lt p1 (by omega)
        refine .inr ⟨m1 + 1, S1, by omega, by omega, by omega, fun K hK => p4 K (by omega), fun d I J W hd h hw => ?_, fun d I J Q hd h hq => ?_⟩
        · obtain ⟨d, rfl⟩ : ∃ d', d = d' + 1 + 1 := ⟨d - 2, by omega⟩
          obtain ⟨I1, e1, f1, s1⟩ := c_nx (X := X) (d := d) (J := J) (by omega) h hm
          obtain ⟨I2, e2, f2, s2⟩ := p5 d I1 J W (by omega) s1 (by omega)
          obtain ⟨I3, e3, f3, s3⟩ := c_accY (X := X) (d := d) (J := J) (k := 41) (by omega) s2 k1 (by decide)
          refine ⟨I3, cw (d + 1) I I3 J W true h ?_, CFr_trans f1 (CFr_trans f2 f3), s3⟩
          refine callF_of (by decide) (Nat.le_of_ble_eq_true rfl) ?_
          show Ev X d 62 0 [.ref 124, .int (nI 40), .int (nI o)] [] ( mk I J) _
          simp (disch := first | omega | assumption | exact rfl) only [U_62_0, U_62_2, U_62_3, U_62_4, U_62_5, U_62_7, XX, QQ, WW, KK, QX, SHs, RRs, Nat.reduceAdd, Nat.reduceMul, Nat.reduceLeDiff, Nat.reduceEqDiff, List.length_cons, List.length_nil, decide_true, decide_false, Bool.true_and, Bool.and_true, Bool.false_and, Bool.and_false, false_and, and_false, Bool.false_eq_true, Bool.true_eq_false, reduceCtorEq, eq_self, if_true, if_false, true_and, and_true, not_true_eq_false, not_false_eq_true, if_pos, if_neg, z_ite_not, false_or, or_false, true_or, or_true, SWs, swk_0, swk_1, e1, e2, e3]
        · obtain ⟨d, rfl⟩ : ∃ d', d = d' + 1 := ⟨d - 1, by omega⟩
          obtain ⟨k5, k6, k7⟩ := RPs_k h
          have k9 : I 177 14 = nI 140 := by rw [k5, kn]; rfl
          obtain ⟨I1, e1, f1, s1⟩ := r_opens (X := X) (d := d) (J := J) (by omega) h o7 hm
          obtain ⟨I2, e2, f2, s2⟩ := p6 d I1 J Q (by omega) s1 (by omega)
          obtain ⟨I3, e3, f3, s3⟩ := r_needY (X := X) (d := d) (J := J) (k := 41) (c := 141) (by omega) s2 k1 (by decide) rfl
          have h8 : I3 177 20 = nI (o + 1) := s3.2.2.2.2.2.2
          obtain ⟨s4, f4⟩ := RPs_d (o' := o) s3
          refine ⟨_, ?_, RFr_trans f1 (RFr_trans f2 (RFr_trans f3 f4)), s4⟩
          refine callF_of (by decide) (Nat.le_of_ble_eq_true rfl) ?_
          show Ev X d 179 0 [.ref 177, .retAddr 0] [] ( mk I J) _
          simp (disch := first | omega | assumption | exact rfl) only [U_179_0, U_179_5, U_179_6, U_179_7, U_179_8, U_179_10, XX, QQ, WW, KK, QX, SHs, RRs, Nat.reduceAdd, Nat.reduceMul, Nat.reduceLeDiff, Nat.reduceEqDiff, List.length_cons, List.length_nil, decide_true, decide_false, Bool.true_and, Bool.and_true, Bool.false_and, Bool.and_false, false_and, and_false, Bool.false_eq_true, Bool.true_eq_false, reduceCtorEq, eq_self, if_true, if_false, true_and, and_true, not_true_eq_false, not_false_eq_true, if_pos, if_neg, z_ite_not, false_or, or_false, true_or, or_true, SWs, swk_0, swk_1, k9, e1, e2, e3, h8, Nat.add_sub_cancel]
      · refine .inl ⟨1, tpo tp tl m1, fun d I J W hd h hw => ?_, fun d I J Q hd h hq => ?_⟩
        · obtain ⟨d, rfl⟩ : ∃ d', d = d' + 1 + 1 := ⟨d - 2, by omega⟩
          obtain ⟨I1, e1, f1, s1⟩ := c_nx (X := X) (d := d) (J := J) (by omega) h hm
          obtain ⟨I2, e2, f2, s2⟩ := p5 d I1 J W (by omega) s1 (by omega)
          obtain ⟨I3, e3, f3⟩ := c_accF (X := X) (d := d) (J := J) (k := 41) (by omega) s2 k1 (by decide)
          refine ⟨I3, cw (d + 1) I I3 J W false h ?_, CGl_after f1 (CGl_after f2 f3)⟩
          refine callF_of (by decide) (Nat.le_of_ble_eq_true rfl) ?_
          show Ev X d 62 0 [.ref 124, .int (nI 40), .int (nI o)] [] ( mk I J) _
          simp (disch := first | omega | assumption | exact rfl) only [U_62_0, U_62_2, U_62_3, U_62_4, U_62_6, U_62_7, XX, QQ, WW, KK, QX, SHs, RRs, Nat.reduceAdd, Nat.reduceMul, Nat.reduceLeDiff, Nat.reduceEqDiff, List.length_cons, List.length_nil, decide_true, decide_false, Bool.true_and, Bool.and_true, Bool.false_and, Bool.and_false, false_and, and_false, Bool.false_eq_true, Bool.true_eq_false, reduceCtorEq, eq_self, if_true, if_false, true_and, and_true, not_true_eq_false, not_false_eq_true, if_pos, if_neg, z_ite_not, false_or, or_false, true_or, or_true, SWs, swk_0, swk_1, e1, e2, e3]
        · obtain ⟨d, rfl⟩ : ∃ d', d = d' + 1 := ⟨d - 1, by omega⟩
          obtain ⟨k5, k6, k7⟩ := RPs_k h
          have k9 : I 177 14 = nI 140 := by rw [k5, kn]; rfl
          obtain ⟨I1, e1, f1, s1⟩ := r_opens (X := X) (d := d) (J := J) (by omega) h o7 hm
          obtain ⟨I2, e2, f2, s2⟩ := p6 d I1 J Q (by omega) s1 (by omega)
          obtain ⟨I3, e3, f3⟩ := r_needF (X := X) (d := d) (J := J) (c := 141) (by omega) s2 (fun z => k1 ((rq_2 _ kb).2.2.2.2.mp z)) (by decide)
          refine ⟨I3, ?_, RFl_after f1 (RFl_after f2 f3)⟩
          refine callF_of (by decide) (Nat.le_of_ble_eq_true rfl) ?_
          show Ev X d 179 0 [.ref 177, .retAddr 0] [] ( mk I J) _
          simp (disch := first | omega | assumption | exact rfl) only [U_179_0, U_179_5, U_179_6, U_179_7, U_179_8, U_179_9, XX, QQ, WW, KK, QX, SHs, RRs, Nat.reduceAdd, Nat.reduceMul, Nat.reduceLeDiff, Nat.reduceEqDiff, List.length_cons, List.length_nil, decide_true, decide_false, Bool.true_and, Bool.and_true, Bool.false_and, Bool.and_false, false_and, and_false, Bool.false_eq_true, Bool.true_eq_false, reduceCtorEq, eq_self, if_true, if_false, true_and, and_true, not_true_eq_false, not_false_eq_true, if_pos, if_neg, z_ite_not, false_or, or_false, true_or, or_true, SWs, swk_0, swk_1, k9, e1, e2, e3]
theorem cond_cmp (ho : o ≤ 8) (h2 : m ≤ tkT tp tl) (kn : psK tp tl m ≠ 270) (kp : psK tp tl m ≠ 40) : Outc X (4 * (8 - o) + 6) 61 [.ref 124, .int (nI o)] (3 * (8 - o) + 20) 179 tp tl m o (2 * o + 2) true := by
  have kb := psK_b (tp := tp) (tl := tl) (m := m)
  have g6 := (rq_4 _ kb).2.2.2.2
  have gn : ¬ rtk false (psK tp tl m) = 6 := fun z => kn ((rq_2 _ kb).2.2.1.mp z)
  have gp : ¬ rtk false (psK tp tl m) = 140 := fun z => kp ((rq_2 _ kb).2.2.2.1.mp z)
  rcases sumA (X := X) (tp := tp) (tl := tl) (m := m) o h2 with ⟨k, p, c1, c2⟩ | ⟨m1, S1, p1, p2, p3, p4, p5, p6⟩
  · refine .inl ⟨k, p, fun d I J W hd h hw => ?_, fun d I J Q hd h hq => ?_⟩
    · obtain ⟨d, rfl⟩ : ∃ d', d = d' + 1 := ⟨d - 1, by omega⟩
      obtain ⟨k5, k6, k7⟩ := CPs_k h
      obtain ⟨I2, e2, f2⟩ := c1 d I J W (by omega) h hw
      refine ⟨I2, ?_, f2⟩
      refine callF_of (by decide) (Nat.le_of_ble_eq_true rfl) ?_
      show Ev X d 61 0 [.ref 124, .int (nI o), .retAddr 0] [] ( mk I J) _
      simp (disch := first | omega | assumption | exact rfl) only [U_61_0, U_61_1, U_61_3, U_61_4, XX, QQ, WW, KK, QX, SHs, RRs, Nat.reduceAdd, Nat.reduceMul, Nat.reduceLeDiff, Nat.reduceEqDiff, List.length_cons, List.length_nil, decide_true, decide_false, Bool.true_and, Bool.and_true, Bool.false_and, Bool.and_false, false_and, and_false, Bool.false_eq_true, Bool.true_eq_false, reduceCtorEq, eq_self, if_true, if_false, true_and, and_true, not_true_eq_false, not_false_eq_true, if_pos, if_neg, z_ite_not, false_or, or_false, true_or, or_true, SWs, swk_0, swk_1, k5, kn, kp, e2]
    · obtain ⟨d, rfl⟩ : ∃ d', d = d' + 1 := ⟨d - 1, by omega⟩
      obtain ⟨k5, k6, k7⟩ := RPs_k h
      obtain ⟨I2, e2, f2⟩ := c2 d I J Q (by omega) h hq
      refine ⟨I2, ?_, f2⟩
      refine callF_of (by decide) (Nat.le_of_ble_eq_true rfl) ?_
      show Ev X d 179 0 [.ref 177, .retAddr 0] [] ( mk I J) _
      simp (disch := first | omega | assumption | exact rfl) only [U_179_0, U_179_5, U_179_11, U_179_12, XX, QQ, WW, KK, QX, SHs, RRs, Nat.reduceAdd, Nat.reduceMul, Nat.reduceLeDiff, Nat.reduceEqDiff, List.length_cons, List.length_nil, decide_true, decide_false, Bool.true_and, Bool.and_true, Bool.false_and, Bool.and_false, false_and, and_false, Bool.false_eq_true, Bool.true_eq_false, reduceCtorEq, eq_self, if_true, if_false, true_and, and_true, not_true_eq_false, not_false_eq_true, if_pos, if_neg, z_ite_not, false_or, or_false, true_or, or_true, SWs, swk_0, swk_1, k5, gn, gp, e2]
  · have cl := segC_l S1
    have kb1 := psK_b (tp := tp) (tl := tl) (m := m1)
    have g61 := (rq_4 _ kb1).2.2.2.2
    have cst : ∀ (d : Nat) (I : Nat → Nat → Int32) (J : Nat → Nat → Int64) (W : List Int32), 5 ≤ d → CPs I tp tl m W → W.length ≤ m → ∃ I', CFr I I' ∧ CPs I' tp tl m1 (W ++ segC S1) ∧ ∀ r, Ev X d 61 5 [.ref 124, .int (nI o), .retAddr 0] [] (mk I' J) r → callF X (d + 1) 61 [.ref 124, .int (nI o)] (mk I J) = some r := by
      intro d I J W hd h hw
      obtain ⟨k5, k6, k7⟩ := CPs_k h
      obtain ⟨I2, e2, f2, s2⟩ := p5 d I J W (by omega) h hw
      refine ⟨I2, f2, s2, fun r H => ?_⟩
      refine callF_of (by decide) (Nat.le_of_ble_eq_true rfl) ?_
      show Ev X d 61 0 [.ref 124, .int (nI o), .retAddr 0] [] ( mk I J) _
      simp (disch := first | omega | assumption | exact rfl) only [U_61_0, U_61_1, U_61_3, XX, QQ, WW, KK, QX, SHs, RRs, Nat.reduceAdd, Nat.reduceMul, Nat.reduceLeDiff, Nat.reduceEqDiff, List.length_cons, List.length_nil, decide_true, decide_false, Bool.true_and, Bool.and_true, Bool.false_and, Bool.and_false, false_and, and_false, Bool.false_eq_true, Bool.true_eq_false, reduceCtorEq, eq_self, if_true, if_false, true_and, and_true, not_true_eq_false, not_false_eq_true, if_pos, if_neg, z_ite_not, false_or, or_false, true_or, or_true, SWs, swk_0, swk_1, k5, kn, kp, e2]
      exact H
    have rst : ∀ (d : Nat) (I : Nat → Nat → Int32) (J : Nat → Nat → Int64) (Q : List (Nat × Nat)), 19 ≤ d → RPs I tp tl m Q o → Q.length ≤ m → ∃ I', RFr I I' ∧ RPs I' tp tl m1 (Q ++ S1) o ∧ ∀ r, Ev X d 179 13 [.ref 177, .retAddr 0] [] (mk I' J) r → callF X (d + 1) 179 [.ref 177] (mk I J) = some r := by
      intro d I J Q hd h hq
      obtain ⟨k5, k6, k7⟩ := RPs_k h
      obtain ⟨I2, e2, f2, s2⟩ := p6 d I J Q (by omega) h hq
      refine ⟨I2, f2, s2, fun r H => ?_⟩
      refine callF_of (by decide) (Nat.le_of_ble_eq_true rfl) ?_
      show Ev X d 179 0 [.ref 177, .retAddr 0] [] ( mk I J) _
      simp (disch := first | omega | assumption | exact rfl) only [U_179_0, U_179_5, U_179_11, XX, QQ, WW, KK, QX, SHs, RRs, Nat.reduceAdd, Nat.reduceMul, Nat.reduceLeDiff, Nat.reduceEqDiff, List.length_cons, List.length_nil, decide_true, decide_false, Bool.true_and, Bool.and_true, Bool.false_and, Bool.and_false, false_and, and_false, Bool.false_eq_true, Bool.true_eq_false, reduceCtorEq, eq_self, if_true, if_false, true_and, and_true, not_true_eq_false, not_false_eq_true, if_pos, if_neg, z_ite_not, false_or, or_false, true_or, or_true, SWs, swk_0, swk_1, k5, gn, gp, e2]
      exact H
    by_cases ks : psK tp tl m1 = 60 ∨ psK tp tl m1 = 61 ∨ psK tp tl m1 = 62
    · have hm1 := psK_lt p1 (by omega)
      obtain ⟨c, ec⟩ : ∃ c, c = psK tp tl m1 := ⟨_, rfl⟩
      rw [← ec] at ks
      obtain ⟨op, eop⟩ : ∃ op, op = c - 50 := ⟨_, rfl⟩
      have oc : (c = 60 ∧ op = 10) ∨ (c = 61 ∧ op = 11) ∨ (c = 62 ∧ op = 12) := by omega
      have sop : segC [(op, 0)] = [-(nI c)] := by
        rcases oc with ⟨rfl, rfl⟩ | ⟨rfl, rfl⟩ | ⟨rfl, rfl⟩ <;> rfl
      have cs9 : ∀ (d : Nat) (I : Nat → Nat → Int32) (J : Nat → Nat → Int64) (W : List Int32) (r : Option Value × Mem), CPs I tp tl m1 W → Ev X d 61 9 [.ref 124, .int (nI o), .int (nI c)] [] (mk I J) r → Ev X d 61 5 [.ref 124, .int (nI o), .retAddr 0] [] (mk I J) r := by
        intro d I J W r h H
        obtain ⟨k5, k6, k7⟩ := CPs_k h
        rw [← ec] at k5
        rcases oc with ⟨rfl, rfl⟩ | ⟨rfl, rfl⟩ | ⟨rfl, rfl⟩
        · simp (disch := first | omega | assumption | exact rfl) only [U_61_5, XX, QQ, WW, KK, QX, SHs, RRs, Nat.reduceAdd, Nat.reduceMul, Nat.reduceLeDiff, Nat.reduceEqDiff, List.length_cons, List.length_nil, decide_true, decide_false, Bool.true_and, Bool.and_true, Bool.false_and, Bool.and_false, false_and, and_false, Bool.false_eq_true, Bool.true_eq_false, reduceCtorEq, eq_self, if_true, if_false, true_and, and_true, not_true_eq_false, not_false_eq_true, if_pos, if_neg, z_ite_not, false_or, or_false, true_or, or_true, SWs, swk_0, swk_1, k5]
          exact H
        · simp (disch := first | omega | assumption | exact rfl) only [U_61_5, U_61_6, XX, QQ, WW, KK, QX, SHs, RRs, Nat.reduceAdd, Nat.reduceMul, Nat.reduceLeDiff, Nat.reduceEqDiff, List.length_cons, List.length_nil, decide_true, decide_false, Bool.true_and, Bool.and_true, Bool.false_and, Bool.and_false, false_and, and_false, Bool.false_eq_true, Bool.true_eq_false, reduceCtorEq, eq_self, if_true, if_false, true_and, and_true, not_true_eq_false, not_false_eq_true, if_pos, if_neg, z_ite_not, false_or, or_false, true_or, or_true, SWs, swk_0, swk_1, k5]
          exact H
        · simp (disch := first | omega | assumption | exact rfl) only [U_61_5, U_61_6, U_61_7, XX, QQ, WW, KK, QX, SHs, RRs, Nat.reduceAdd, Nat.reduceMul, Nat.reduceLeDiff, Nat.reduceEqDiff, List.length_cons, List.length_nil, decide_true, decide_false, Bool.true_and, Bool.and_true, Bool.false_and, Bool.and_false, false_and, and_false, Bool.false_eq_true, Bool.true_eq_false, reduceCtorEq, eq_self, if_true, if_false, true_and, and_true, not_true_eq_false, not_false_eq_true, if_pos, if_neg, z_ite_not, false_or, or_false, true_or, or_true, SWs, swk_0, swk_1, k5]
          exact H
      have rs9 : ∀ (d : Nat) (I : Nat → Nat → Int32) (J : Nat → Nat → Int64) (Q : List (Nat × Nat)) (r : Option Value × Mem), RPs I tp tl m1 Q o → Ev X d 179 22 [.ref 177, .int (nI op)] [] (mk I J) r → Ev X d 179 13 [.ref 177, .retAddr 0] [] (mk I J) r := by
        intro d I J Q r h H
        obtain ⟨k5, k6, k7⟩ := RPs_k h
        rw [← ec] at k5
        rcases oc with ⟨rfl, rfl⟩ | ⟨rfl, rfl⟩ | ⟨rfl, rfl⟩
        · have k9 : I 177 14 = nI 160 := k5
          simp (disch := first | omega | assumption | exact rfl) only [U_179_13, U_179_14, U_179_20, XX, QQ, WW, KK, QX, SHs, RRs, Nat.reduceAdd, Nat.reduceMul, Nat.reduceLeDiff, Nat.reduceEqDiff, List.length_cons, List.length_nil, decide_true, decide_false, Bool.true_and, Bool.and_true, Bool.false_and, Bool.and_false, false_and, and_false, Bool.false_eq_true, Bool.true_eq_false, reduceCtorEq, eq_self, if_true, if_false, true_and, and_true, not_true_eq_false, not_false_eq_true, if_pos, if_neg, z_ite_not, false_or, or_false, true_or, or_true, SWs, swk_0, swk_1, k9]
          exact H
        · have k9 : I 177 14 = nI 161 := k5
          simp (disch := first | omega | assumption | exact rfl) only [U_179_13, U_179_15, U_179_16, U_179_20, XX, QQ, WW, KK, QX, SHs, RRs, Nat.reduceAdd, Nat.reduceMul, Nat.reduceLeDiff, Nat.reduceEqDiff, List.length_cons, List.length_nil, decide_true, decide_false, Bool.true_and, Bool.and_true, Bool.false_and, Bool.and_false, false_and, and_false, Bool.false_eq_true, Bool.true_eq_false, reduceCtorEq, eq_self, if_true, if_false, true_and, and_true, not_true_eq_false, not_false_eq_true, if_pos, if_neg, z_ite_not, false_or, or_false, true_or, or_true, SWs, swk_0, swk_1, k9]
          exact H
        · have k9 : I 177 14 = nI 162 := k5
          simp (disch := first | omega | assumption | exact rfl) only [U_179_13, U_179_15, U_179_17, U_179_18, U_179_20, XX, QQ, WW, KK, QX, SHs, RRs, Nat.reduceAdd, Nat.reduceMul, Nat.reduceLeDiff, Nat.reduceEqDiff, List.length_cons, List.length_nil, decide_true, decide_false, Bool.true_and, Bool.and_true, Bool.false_and, Bool.and_false, false_and, and_false, Bool.false_eq_true, Bool.true_eq_false, reduceCtorEq, eq_self, if_true, if_false, true_and, and_true, not_true_eq_false, not_false_eq_true, if_pos, if_neg, z_ite_not, false_or, or_false, true_or, or_true, SWs, swk_0, swk_1, k9]
          exact H
      rcases sumA (X := X) (tp := tp) (tl := tl) (m := m1 + 1) o (by omega) with ⟨k, p, c1, c2⟩ | ⟨m2, S2, q1, q2, q3, q4, q5, q6⟩
      · refine .inl ⟨k, p, fun d I J W hd h hw => ?_, fun d I J Q hd h hq => ?_⟩
        · obtain ⟨d, rfl⟩ : ∃ d', d = d' + 1 := ⟨d - 1, by omega⟩
          obtain ⟨I1, f1, s1, H1⟩ := cst d I J W (by omega) h hw
          obtain ⟨I2, e2, f2, s2⟩ := c_nx (X := X) (d := d) (J := J) (by omega) s1 hm1
          obtain ⟨I3, e3, f3⟩ := c1 d I2 J _ (by omega) s2 (by rw [List.length_append]; omega)
          refine ⟨I3, H1 _ (cs9 _ _ _ _ _ s1 ?_), CGl_after f1 (CGl_after f2 f3)⟩
          simp (disch := first | omega | assumption | exact rfl) only [U_61_9, U_61_10, XX, QQ, WW, KK, QX, SHs, RRs, Nat.reduceAdd, Nat.reduceMul, Nat.reduceLeDiff, Nat.reduceEqDiff, List.length_cons, List.length_nil, decide_true, decide_false, Bool.true_and, Bool.and_true, Bool.false_and, Bool.and_false, false_and, and_false, Bool.false_eq_true, Bool.true_eq_false, reduceCtorEq, eq_self, if_true, if_false, true_and, and_true, not_true_eq_false, not_false_eq_true, if_pos, if_neg, z_ite_not, false_or, or_false, true_or, or_true, SWs, swk_0, swk_1, e2, e3]
        · obtain ⟨d, rfl⟩ : ∃ d', d = d' + 1 := ⟨d - 1, by omega⟩
          obtain ⟨I1, f1, s1, H1⟩ := rst d I J Q (by omega) h hq
          obtain ⟨I2, e2, f2, s2⟩ := r_nx (X := X) (d := d) (J := J) (by omega) s1 hm1
          obtain ⟨I3, e3, f3⟩ := c2 d I2 J _ (by omega) s2 (by rw [List.length_append]; omega)
          refine ⟨I3, H1 _ (rs9 _ _ _ _ _ s1 ?_), RFl_after f1 (RFl_after f2 f3)⟩
          simp (disch := first | omega | assumption | exact rfl) only [U_179_22, U_179_23, XX, QQ, WW, KK, QX, SHs, RRs, Nat.reduceAdd, Nat.reduceMul, Nat.reduceLeDiff, Nat.reduceEqDiff, List.length_cons, List.length_nil, decide_true, decide_false, Bool.true_and, Bool.and_true, Bool.false_and, Bool.and_false, false_and, and_false, Bool.false_eq_true, Bool.true_eq_false, reduceCtorEq, eq_self, if_true, if_false, true_and, and_true, not_true_eq_false, not_false_eq_true, if_pos, if_neg, z_ite_not, false_or, or_false, true_or, or_true, SWs, swk_0, swk_1, e2, e3]
      · have cl2 := segC_l S2
        refine .inr ⟨m2, S1 ++ (S2 ++ [(op, 0)]), q1, by omega, ?_, fun K hK => ?_, fun d I J W hd h hw => ?_, fun d I J Q hd h hq => ?_⟩
        · rw [segC_app, segC_app, sop, List.length_append, List.length_append]; show _ + (_ + 1) + m ≤ m2; omega
        · have e1 : ak1 (op, 0) (false :: false :: K) = some (true :: K) := by
            rcases oc with ⟨_, rfl⟩ | ⟨_, rfl⟩ | ⟨_, rfl⟩ <;> rfl
          rw [ak_then (p4 K (by omega)), ak_then (q4 (false :: K) (by rw [List.length_cons]; omega)), ak_c e1]; rfl
        · obtain ⟨d, rfl⟩ : ∃ d', d = d' + 1 := ⟨d - 1, by omega⟩
          obtain ⟨I1, f1, s1, H1⟩ := cst d I J W (by omega) h hw
          obtain ⟨I2, e2, f2, s2⟩ := c_nx (X := X) (d := d) (J := J) (by omega) s1 hm1
          obtain ⟨I3, e3, f3, s3⟩ := q5 d I2 J _ (by omega) s2 (by rw [List.length_append]; omega)
          obtain ⟨t1, t2⟩ := T400 s3
          obtain ⟨I4, e4, f4, s4⟩ := c_wr (X := X) (d := d) (J := J) (x := -(nI c)) (by omega) s3 (by rw [List.length_append, List.length_append]; omega)
          rw [segC_app, segC_app, sop, ← List.append_assoc, ← List.append_assoc]
          refine ⟨I4, H1 _ (cs9 _ _ _ _ _ s1 ?_), CFr_trans f1 (CFr_trans f2 (CFr_trans f3 f4)), s4⟩
          simp (disch := first | omega | assumption | exact rfl) only [U_61_9, U_61_11, XX, QQ, WW, KK, QX, SHs, RRs, Nat.reduceAdd, Nat.reduceMul, Nat.reduceLeDiff, Nat.reduceEqDiff, List.length_cons, List.length_nil, decide_true, decide_false, Bool.true_and, Bool.and_true, Bool.false_and, Bool.and_false, false_and, and_false, Bool.false_eq_true, Bool.true_eq_false, reduceCtorEq, eq_self, if_true, if_false, true_and, and_true, not_true_eq_false, not_false_eq_true, if_pos, if_neg, z_ite_not, false_or, or_false, true_or, or_true, SWs, swk_0, swk_1, e2, e3, e4]
        · obtain ⟨d, rfl⟩ : ∃ d', d = d' + 1 := ⟨d - 1, by omega⟩
          obtain ⟨I1, f1, s1, H1⟩ := rst d I J Q (by omega) h hq
          obtain ⟨I2, e2, f2, s2⟩ := r_nx (X := X) (d := d) (J := J) (by omega) s1 hm1
          obtain ⟨I3, e3, f3, s3⟩ := q6 d I2 J _ (by omega) s2 (by rw [List.length_append]; omega)
          obtain ⟨t1, t2⟩ := RPs_l s3
          obtain ⟨I4, e4, f4, s4⟩ := r_lay0 (X := X) (d := d) (J := J) (op := op) (v := nI 0) (x := 0) (by omega) s3 (by rw [List.length_append, List.length_append]; omega) (fun _ => rfl)
          rw [← List.append_assoc, ← List.append_assoc]
          refine ⟨I4, H1 _ (rs9 _ _ _ _ _ s1 ?_), RFr_trans f1 (RFr_trans f2 (RFr_trans f3 f4)), s4⟩
          simp (disch := first | omega | assumption | exact rfl) only [U_179_22, U_179_24, XX, QQ, WW, KK, QX, SHs, RRs, Nat.reduceAdd, Nat.reduceMul, Nat.reduceLeDiff, Nat.reduceEqDiff, List.length_cons, List.length_nil, decide_true, decide_false, Bool.true_and, Bool.and_true, Bool.false_and, Bool.and_false, false_and, and_false, Bool.false_eq_true, Bool.true_eq_false, reduceCtorEq, eq_self, if_true, if_false, true_and, and_true, not_true_eq_false, not_false_eq_true, if_pos, if_neg, z_ite_not, false_or, or_false, true_or, or_true, SWs, swk_0, swk_1, e2, e3, e4]
    · have n1 : ¬ psK tp tl m1 = 60 := fun z => ks (.inl z)
      have n2 : ¬ psK tp tl m1 = 61 := fun z => ks (.inr (.inl z))
      have n3 : ¬ psK tp tl m1 = 62 := fun z => ks (.inr (.inr z))
      have r1 : ¬ rtk false (psK tp tl m1) = 160 := fun z => n1 ((rq_3 _ kb1).1.mp z)
      have r2 : ¬ rtk false (psK tp tl m1) = 161 := fun z => n2 ((rq_3 _ kb1).2.1.mp z)
      have r3 : ¬ rtk false (psK tp tl m1) = 162 := fun z => n3 ((rq_3 _ kb1).2.2.1.mp z)
      refine .inl ⟨1, tpo tp tl m1, fun d I J W hd h hw => ?_, fun d I J Q hd h hq => ?_⟩
      · obtain ⟨d, rfl⟩ : ∃ d', d = d' + 1 := ⟨d - 1, by omega⟩
        obtain ⟨I1, f1, s1, H1⟩ := cst d I J W (by omega) h hw
        obtain ⟨k5, k6, k7⟩ := CPs_k s1
        obtain ⟨I2, e2, f2⟩ := c_flG (X := X) (d := d) (I := I1) (J := J) (k := 1) (p := tpo tp tl m1) (by omega) s1
        refine ⟨I2, H1 _ ?_, CGl_after f1 f2⟩
        simp (disch := first | omega | assumption | exact rfl) only [U_61_5, U_61_6, U_61_7, U_61_8, XX, QQ, WW, KK, QX, SHs, RRs, Nat.reduceAdd, Nat.reduceMul, Nat.reduceLeDiff, Nat.reduceEqDiff, List.length_cons, List.length_nil, decide_true, decide_false, Bool.true_and, Bool.and_true, Bool.false_and, Bool.and_false, false_and, and_false, Bool.false_eq_true, Bool.true_eq_false, reduceCtorEq, eq_self, if_true, if_false, true_and, and_true, not_true_eq_false, not_false_eq_true, if_pos, if_neg, z_ite_not, false_or, or_false, true_or, or_true, SWs, swk_0, swk_1, k5, k6, n1, n2, n3, e2]
      · obtain ⟨d, rfl⟩ : ∃ d', d = d' + 1 := ⟨d - 1, by omega⟩
        obtain ⟨I1, f1, s1, H1⟩ := rst d I J Q (by omega) h hq
        obtain ⟨k5, k6, k7⟩ := RPs_k s1
        obtain ⟨I2, e2, f2⟩ := r_bad (X := X) (d := d) (I := I1) (J := J) (k := 1) (p := tpo tp tl m1) (by omega) k6
        refine ⟨I2, H1 _ ?_, RFl_after f1 f2⟩
        simp (disch := first | omega | assumption | exact rfl) only [U_179_13, U_179_15, U_179_17, U_179_19, U_179_20, U_179_21, XX, QQ, WW, KK, QX, SHs, RRs, Nat.reduceAdd, Nat.reduceMul, Nat.reduceLeDiff, Nat.reduceEqDiff, List.length_cons, List.length_nil, decide_true, decide_false, Bool.true_and, Bool.and_true, Bool.false_and, Bool.and_false, false_and, and_false, Bool.false_eq_true, Bool.true_eq_false, reduceCtorEq, eq_self, if_true, if_false, true_and, and_true, not_true_eq_false, not_false_eq_true, if_pos, if_neg, z_ite_not, false_or, or_false, true_or, or_true, SWs, swk_0, swk_1, k5, r1, r2, r3, e2]
/-- conditions, joined conditions, by how many are open -/
theorem cond_all : ∀ n o, o ≤ 8 → 8 ≤ o + n → (∀ m, m ≤ tkT tp tl → Outc X (4 * (8 - o) + 6) 61 [.ref 124, .int (nI o)] (3 * (8 - o) + 20) 179 tp tl m o (2 * o + 2) true) ∧ ∀ m, m ≤ tkT tp tl → Outc X (4 * (8 - o) + 8) 60 [.ref 124, .int (nI o)] (3 * (8 - o) + 22) 177 tp tl m o (2 * o) true := by
  have up : ∀ o, o ≤ 8 → (∀ m, m ≤ tkT tp tl → Outc X (4 * (8 - o) + 6) 61 [.ref 124, .int (nI o)] (3 * (8 - o) + 20) 179 tp tl m o (2 * o + 2) true) → ∀ m, m ≤ tkT tp tl → Outc X (4 * (8 - o) + 8) 60 [.ref 124, .int (nI o)] (3 * (8 - o) + 22) 177 tp tl m o (2 * o) true := by
    intro o ho hc m hm
    exact any_ (fun m hm => every_ (h := 2 * o + 1) hc (by omega) (by omega) ho hm) (by omega) (by omega) ho hm
  have all : ∀ o, o ≤ 8 → (o < 8 → (∀ m, m ≤ tkT tp tl → Outc X (4 * (7 - o) + 6) 61 [.ref 124, .int (nI (o + 1))] (3 * (7 - o) + 20) 179 tp tl m (o + 1) (2 * (o + 1) + 2) true) ∧ ∀ m, m ≤ tkT tp tl → Outc X (4 * (7 - o) + 8) 60 [.ref 124, .int (nI (o + 1))] (3 * (7 - o) + 22) 177 tp tl m (o + 1) (2 * (o + 1)) true) → ∀ m, m ≤ tkT tp tl → Outc X (4 * (8 - o) + 6) 61 [.ref 124, .int (nI o)] (3 * (8 - o) + 20) 179 tp tl m o (2 * o + 2) true := by
    intro o ho hh m hm
    by_cases a : psK tp tl m = 270
    · exact cond_not ho hm a (fun q => (hh q).1)
    · by_cases b : psK tp tl m = 40
      · exact cond_par ho hm b (fun q => (hh q).2)
      · exact cond_cmp ho hm a b
  intro n
  induction n with
  | zero =>
    intro o ho hn
    have c := all o ho (fun q => by omega)
    exact ⟨c, up o ho c⟩
  | succ n ih =>
    intro o ho hn
    have c := all o ho (fun q => by
      have := ih (o + 1) (by omega) (by omega)
      rw [show 8 - (o + 1) = 7 - o by omega] at this
      exact this)
    exact ⟨c, up o ho c⟩
/-- a line's condition -/
theorem any0 (hm : m ≤ tkT tp tl) : Outc X 40 60 [.ref 124, .int (nI 0)] 46 177 tp tl m 0 0 true := (cond_all 8 0 (by decide) (by decide)).2 m hm
end CND
