/-! ===== words of rules: the reference ===== -/
theorem r_wayWord {X : Nat × (Nat → Int32)} {d : Nat} {I : Nat → Nat → Int32} {J : Nat → Nat → Int64} {tp : Nat → Nat} {tl p e : Nat} (hd : 11 ≤ d) (hT : RTp I tp tl) (h13 : I 177 13 = nI e) (h15 : I 177 15 = nI p) (hpe : p ≤ e) (hel : e ≤ tl) (nw : ∀ w, 11 ≤ w → w < 20 → strT (w + 2) ≠ txt tp p (e - p)) : callF X d 166 [.ref 177] (mk I J) = some (some (.int (nI (rtk false (wdK (txt tp p (e - p)))))), mk I J) := by
  obtain ⟨t, et⟩ : ∃ t, t = txt tp p (e - p) := ⟨_, rfl⟩
  rw [← et] at nw
  rw [← et]
  refine callF_at (by omega) (by decide) (Nat.le_of_ble_eq_true rfl) (fun d _ => ?_)
  show Ev X d 166 0 [.ref 177] [] ( mk I J) _
  have is : ∀ k, k < 22 → 2 ≤ k → callF X d 164 [.ref 177, .float (UInt32.ofNat k)] (mk I J) = some (some (.int (bI (decide (strT k = t)))), mk I J) := fun k h1 h2 => by rw [et]; exact r_is (by omega) hT h13 h15 hpe hel h1 h2
  have i6 := is 6 (by decide) (by decide)
  by_cases h6 : strT 6 = t
  · rw [rtk_w (w := 4) (by decide) h6]
    rw [decide_eq_true h6] at i6
    simp (disch := first | omega | assumption | exact rfl) only [U_166_0, U_166_1, XX, QQ, WW, KK, QX, SHs, RRs, Nat.reduceAdd, Nat.reduceMul, Nat.reduceLeDiff, Nat.reduceEqDiff, List.length_cons, List.length_nil, decide_true, decide_false, Bool.true_and, Bool.and_true, Bool.false_and, Bool.and_false, false_and, and_false, Bool.false_eq_true, Bool.true_eq_false, reduceCtorEq, eq_self, if_true, if_false, true_and, and_true, not_true_eq_false, not_false_eq_true, if_pos, if_neg, z_ite_not, false_or, or_false, true_or, or_true, SWs, swk_0, swk_1, i6]
    rfl
  · rw [decide_eq_false h6] at i6
    have i7 := is 7 (by decide) (by decide)
    by_cases h7 : strT 7 = t
    · rw [rtk_w (w := 5) (by decide) h7]
      rw [decide_eq_true h7] at i7
      simp (disch := first | omega | assumption | exact rfl) only [U_166_0, U_166_2, U_166_3, XX, QQ, WW, KK, QX, SHs, RRs, Nat.reduceAdd, Nat.reduceMul, Nat.reduceLeDiff, Nat.reduceEqDiff, List.length_cons, List.length_nil, decide_true, decide_false, Bool.true_and, Bool.and_true, Bool.false_and, Bool.and_false, false_and, and_false, Bool.false_eq_true, Bool.true_eq_false, reduceCtorEq, eq_self, if_true, if_false, true_and, and_true, not_true_eq_false, not_false_eq_true, if_pos, if_neg, z_ite_not, false_or, or_false, true_or, or_true, SWs, swk_0, swk_1, i6, i7]
      rfl
    · rw [decide_eq_false h7] at i7
      have i8 := is 8 (by decide) (by decide)
      by_cases h8 : strT 8 = t
      · rw [rtk_w (w := 6) (by decide) h8]
        rw [decide_eq_true h8] at i8
        simp (disch := first | omega | assumption | exact rfl) only [U_166_0, U_166_2, U_166_4, U_166_5, XX, QQ, WW, KK, QX, SHs, RRs, Nat.reduceAdd, Nat.reduceMul, Nat.reduceLeDiff, Nat.reduceEqDiff, List.length_cons, List.length_nil, decide_true, decide_false, Bool.true_and, Bool.and_true, Bool.false_and, Bool.and_false, false_and, and_false, Bool.false_eq_true, Bool.true_eq_false, reduceCtorEq, eq_self, if_true, if_false, true_and, and_true, not_true_eq_false, not_false_eq_true, if_pos, if_neg, z_ite_not, false_or, or_false, true_or, or_true, SWs, swk_0, swk_1, i6, i7, i8]
        rfl
      · rw [decide_eq_false h8] at i8
        have i9 := is 9 (by decide) (by decide)
        by_cases h9 : strT 9 = t
        · rw [rtk_w (w := 7) (by decide) h9]
          rw [decide_eq_true h9] at i9
          simp (disch := first | omega | assumption | exact rfl) only [U_166_0, U_166_2, U_166_4, U_166_6, U_166_7, XX, QQ, WW, KK, QX, SHs, RRs, Nat.reduceAdd, Nat.reduceMul, Nat.reduceLeDiff, Nat.reduceEqDiff, List.length_cons, List.length_nil, decide_true, decide_false, Bool.true_and, Bool.and_true, Bool.false_and, Bool.and_false, false_and, and_false, Bool.false_eq_true, Bool.true_eq_false, reduceCtorEq, eq_self, if_true, if_false, true_and, and_true, not_true_eq_false, not_false_eq_true, if_pos, if_neg, z_ite_not, false_or, or_false, true_or, or_true, SWs, swk_0, swk_1, i6, i7, i8, i9]
          rfl
        · rw [decide_eq_false h9] at i9
          have i10 := is 10 (by decide) (by decide)
          by_cases h10 : strT 10 = t
          · rw [rtk_w (w := 8) (by decide) h10]
            rw [decide_eq_true h10] at i10
            simp (disch := first | omega | assumption | exact rfl) only [U_166_0, U_166_2, U_166_4, U_166_6, U_166_8, U_166_9, XX, QQ, WW, KK, QX, SHs, RRs, Nat.reduceAdd, Nat.reduceMul, Nat.reduceLeDiff, Nat.reduceEqDiff, List.length_cons, List.length_nil, decide_true, decide_false, Bool.true_and, Bool.and_true, Bool.false_and, Bool.and_false, false_and, and_false, Bool.false_eq_true, Bool.true_eq_false, reduceCtorEq, eq_self, if_true, if_false, true_and, and_true, not_true_eq_false, not_false_eq_true, if_pos, if_neg, z_ite_not, false_or, or_false, true_or, or_true, SWs, swk_0, swk_1, i6, i7, i8, i9, i10]
            rfl
          · rw [decide_eq_false h10] at i10
            have i11 := is 11 (by decide) (by decide)
            by_cases h11 : strT 11 = t
            · rw [rtk_w (w := 9) (by decide) h11]
              rw [decide_eq_true h11] at i11
              simp (disch := first | omega | assumption | exact rfl) only [U_166_0, U_166_2, U_166_4, U_166_6, U_166_8, U_166_10, U_166_11, XX, QQ, WW, KK, QX, SHs, RRs, Nat.reduceAdd, Nat.reduceMul, Nat.reduceLeDiff, Nat.reduceEqDiff, List.length_cons, List.length_nil, decide_true, decide_false, Bool.true_and, Bool.and_true, Bool.false_and, Bool.and_false, false_and, and_false, Bool.false_eq_true, Bool.true_eq_false, reduceCtorEq, eq_self, if_true, if_false, true_and, and_true, not_true_eq_false, not_false_eq_true, if_pos, if_neg, z_ite_not, false_or, or_false, true_or, or_true, SWs, swk_0, swk_1, i6, i7, i8, i9, i10, i11]
              rfl
            · rw [decide_eq_false h11] at i11
              have i12 := is 12 (by decide) (by decide)
              by_cases h12 : strT 12 = t
              · rw [rtk_w (w := 10) (by decide) h12]
                rw [decide_eq_true h12] at i12
                simp (disch := first | omega | assumption | exact rfl) only [U_166_0, U_166_2, U_166_4, U_166_6, U_166_8, U_166_10, U_166_12, U_166_13, U_166_15, XX, QQ, WW, KK, QX, SHs, RRs, Nat.reduceAdd, Nat.reduceMul, Nat.reduceLeDiff, Nat.reduceEqDiff, List.length_cons, List.length_nil, decide_true, decide_false, Bool.true_and, Bool.and_true, Bool.false_and, Bool.and_false, false_and, and_false, Bool.false_eq_true, Bool.true_eq_false, reduceCtorEq, eq_self, if_true, if_false, true_and, and_true, not_true_eq_false, not_false_eq_true, if_pos, if_neg, z_ite_not, false_or, or_false, true_or, or_true, SWs, swk_0, swk_1, i6, i7, i8, i9, i10, i11, i12]
                rfl
              · rw [decide_eq_false h12] at i12
                have r : rtk false (wdK t) = 1 := by
                  rcases wd_c t with ⟨w, hw, h⟩ | h
                  · have big : w < 11 := Classical.byContradiction (fun q => nw w (by omega) hw h)
                    have : w < 4 := by
                      rcases (by omega : w = 4 ∨ w = 5 ∨ w = 6 ∨ w = 7 ∨ w = 8 ∨ w = 9 ∨ w = 10 ∨ w < 4) with q | q | q | q | q | q | q | q
                      · subst q; exact absurd h h6
                      · subst q; exact absurd h h7
                      · subst q; exact absurd h h8
                      · subst q; exact absurd h h9
                      · subst q; exact absurd h h10
                      · subst q; exact absurd h h11
                      · subst q; exact absurd h h12
                      · exact q
                    rw [rtk_w hw h]
                    unfold rtk
                    rw [if_neg (by omega), if_neg (by omega), if_neg (by decide), if_pos (by omega)]
                  · rw [h]; rfl
                rw [r]
                simp (disch := first | omega | assumption | exact rfl) only [U_166_0, U_166_2, U_166_4, U_166_6, U_166_8, U_166_10, U_166_12, U_166_14, U_166_15, XX, QQ, WW, KK, QX, SHs, RRs, Nat.reduceAdd, Nat.reduceMul, Nat.reduceLeDiff, Nat.reduceEqDiff, List.length_cons, List.length_nil, decide_true, decide_false, Bool.true_and, Bool.and_true, Bool.false_and, Bool.and_false, false_and, and_false, Bool.false_eq_true, Bool.true_eq_false, reduceCtorEq, eq_self, if_true, if_false, true_and, and_true, not_true_eq_false, not_false_eq_true, if_pos, if_neg, z_ite_not, false_or, or_false, true_or, or_true, SWs, swk_0, swk_1, i6, i7, i8, i9, i10, i11, i12]
theorem r_ruleWord {X : Nat × (Nat → Int32)} {d : Nat} {I : Nat → Nat → Int32} {J : Nat → Nat → Int64} {tp : Nat → Nat} {tl p e : Nat} (hd : 12 ≤ d) (hT : RTp I tp tl) (h13 : I 177 13 = nI e) (h15 : I 177 15 = nI p) (hpe : p ≤ e) (hel : e ≤ tl) : callF X d 167 [.ref 177] (mk I J) = some (some (.int (nI (rtk false (wdK (txt tp p (e - p)))))), mk I J) := by
  obtain ⟨t, et⟩ : ∃ t, t = txt tp p (e - p) := ⟨_, rfl⟩
  have wy := fun d hd => r_wayWord (X := X) (d := d) (I := I) (J := J) hd hT h13 h15 hpe hel
  rw [← et] at wy
  rw [← et]
  refine callF_at (by omega) (by decide) (Nat.le_of_ble_eq_true rfl) (fun d _ => ?_)
  show Ev X d 167 0 [.ref 177] [] ( mk I J) _
  have is : ∀ k, k < 22 → 2 ≤ k → callF X d 164 [.ref 177, .float (UInt32.ofNat k)] (mk I J) = some (some (.int (bI (decide (strT k = t)))), mk I J) := fun k h1 h2 => by rw [et]; exact r_is (by omega) hT h13 h15 hpe hel h1 h2
  have i13 := is 13 (by decide) (by decide)
  by_cases h13 : strT 13 = t
  · rw [rtk_w (w := 11) (by decide) h13]
    rw [decide_eq_true h13] at i13
    simp (disch := first | omega | assumption | exact rfl) only [U_167_0, U_167_1, XX, QQ, WW, KK, QX, SHs, RRs, Nat.reduceAdd, Nat.reduceMul, Nat.reduceLeDiff, Nat.reduceEqDiff, List.length_cons, List.length_nil, decide_true, decide_false, Bool.true_and, Bool.and_true, Bool.false_and, Bool.and_false, false_and, and_false, Bool.false_eq_true, Bool.true_eq_false, reduceCtorEq, eq_self, if_true, if_false, true_and, and_true, not_true_eq_false, not_false_eq_true, if_pos, if_neg, z_ite_not, false_or, or_false, true_or, or_true, SWs, swk_0, swk_1, i13]
    rfl
  · rw [decide_eq_false h13] at i13
    have i14 := is 14 (by decide) (by decide)
    by_cases h14 : strT 14 = t
    · rw [rtk_w (w := 12) (by decide) h14]
      rw [decide_eq_true h14] at i14
      simp (disch := first | omega | assumption | exact rfl) only [U_167_0, U_167_2, U_167_3, XX, QQ, WW, KK, QX, SHs, RRs, Nat.reduceAdd, Nat.reduceMul, Nat.reduceLeDiff, Nat.reduceEqDiff, List.length_cons, List.length_nil, decide_true, decide_false, Bool.true_and, Bool.and_true, Bool.false_and, Bool.and_false, false_and, and_false, Bool.false_eq_true, Bool.true_eq_false, reduceCtorEq, eq_self, if_true, if_false, true_and, and_true, not_true_eq_false, not_false_eq_true, if_pos, if_neg, z_ite_not, false_or, or_false, true_or, or_true, SWs, swk_0, swk_1, i13, i14]
      rfl
    · rw [decide_eq_false h14] at i14
      have i15 := is 15 (by decide) (by decide)
      by_cases h15 : strT 15 = t
      · rw [rtk_w (w := 13) (by decide) h15]
        rw [decide_eq_true h15] at i15
        simp (disch := first | omega | assumption | exact rfl) only [U_167_0, U_167_2, U_167_4, U_167_5, XX, QQ, WW, KK, QX, SHs, RRs, Nat.reduceAdd, Nat.reduceMul, Nat.reduceLeDiff, Nat.reduceEqDiff, List.length_cons, List.length_nil, decide_true, decide_false, Bool.true_and, Bool.and_true, Bool.false_and, Bool.and_false, false_and, and_false, Bool.false_eq_true, Bool.true_eq_false, reduceCtorEq, eq_self, if_true, if_false, true_and, and_true, not_true_eq_false, not_false_eq_true, if_pos, if_neg, z_ite_not, false_or, or_false, true_or, or_true, SWs, swk_0, swk_1, i13, i14, i15]
        rfl
      · rw [decide_eq_false h15] at i15
        have i16 := is 16 (by decide) (by decide)
        by_cases h16 : strT 16 = t
        · rw [rtk_w (w := 14) (by decide) h16]
          rw [decide_eq_true h16] at i16
          simp (disch := first | omega | assumption | exact rfl) only [U_167_0, U_167_2, U_167_4, U_167_6, U_167_7, XX, QQ, WW, KK, QX, SHs, RRs, Nat.reduceAdd, Nat.reduceMul, Nat.reduceLeDiff, Nat.reduceEqDiff, List.length_cons, List.length_nil, decide_true, decide_false, Bool.true_and, Bool.and_true, Bool.false_and, Bool.and_false, false_and, and_false, Bool.false_eq_true, Bool.true_eq_false, reduceCtorEq, eq_self, if_true, if_false, true_and, and_true, not_true_eq_false, not_false_eq_true, if_pos, if_neg, z_ite_not, false_or, or_false, true_or, or_true, SWs, swk_0, swk_1, i13, i14, i15, i16]
          rfl
        · rw [decide_eq_false h16] at i16
          have i17 := is 17 (by decide) (by decide)
          by_cases h17 : strT 17 = t
          · rw [rtk_w (w := 15) (by decide) h17]
            rw [decide_eq_true h17] at i17
            simp (disch := first | omega | assumption | exact rfl) only [U_167_0, U_167_2, U_167_4, U_167_6, U_167_8, U_167_9, XX, QQ, WW, KK, QX, SHs, RRs, Nat.reduceAdd, Nat.reduceMul, Nat.reduceLeDiff, Nat.reduceEqDiff, List.length_cons, List.length_nil, decide_true, decide_false, Bool.true_and, Bool.and_true, Bool.false_and, Bool.and_false, false_and, and_false, Bool.false_eq_true, Bool.true_eq_false, reduceCtorEq, eq_self, if_true, if_false, true_and, and_true, not_true_eq_false, not_false_eq_true, if_pos, if_neg, z_ite_not, false_or, or_false, true_or, or_true, SWs, swk_0, swk_1, i13, i14, i15, i16, i17]
            rfl
          · rw [decide_eq_false h17] at i17
            have i18 := is 18 (by decide) (by decide)
            by_cases h18 : strT 18 = t
            · rw [rtk_w (w := 16) (by decide) h18]
              rw [decide_eq_true h18] at i18
              simp (disch := first | omega | assumption | exact rfl) only [U_167_0, U_167_2, U_167_4, U_167_6, U_167_8, U_167_10, U_167_11, XX, QQ, WW, KK, QX, SHs, RRs, Nat.reduceAdd, Nat.reduceMul, Nat.reduceLeDiff, Nat.reduceEqDiff, List.length_cons, List.length_nil, decide_true, decide_false, Bool.true_and, Bool.and_true, Bool.false_and, Bool.and_false, false_and, and_false, Bool.false_eq_true, Bool.true_eq_false, reduceCtorEq, eq_self, if_true, if_false, true_and, and_true, not_true_eq_false, not_false_eq_true, if_pos, if_neg, z_ite_not, false_or, or_false, true_or, or_true, SWs, swk_0, swk_1, i13, i14, i15, i16, i17, i18]
              rfl
            · rw [decide_eq_false h18] at i18
              have i19 := is 19 (by decide) (by decide)
              by_cases h19 : strT 19 = t
              · rw [rtk_w (w := 17) (by decide) h19]
                rw [decide_eq_true h19] at i19
                simp (disch := first | omega | assumption | exact rfl) only [U_167_0, U_167_2, U_167_4, U_167_6, U_167_8, U_167_10, U_167_12, U_167_13, XX, QQ, WW, KK, QX, SHs, RRs, Nat.reduceAdd, Nat.reduceMul, Nat.reduceLeDiff, Nat.reduceEqDiff, List.length_cons, List.length_nil, decide_true, decide_false, Bool.true_and, Bool.and_true, Bool.false_and, Bool.and_false, false_and, and_false, Bool.false_eq_true, Bool.true_eq_false, reduceCtorEq, eq_self, if_true, if_false, true_and, and_true, not_true_eq_false, not_false_eq_true, if_pos, if_neg, z_ite_not, false_or, or_false, true_or, or_true, SWs, swk_0, swk_1, i13, i14, i15, i16, i17, i18, i19]
                rfl
              · rw [decide_eq_false h19] at i19
                have i20 := is 20 (by decide) (by decide)
                by_cases h20 : strT 20 = t
                · rw [rtk_w (w := 18) (by decide) h20]
                  rw [decide_eq_true h20] at i20
                  simp (disch := first | omega | assumption | exact rfl) only [U_167_0, U_167_2, U_167_4, U_167_6, U_167_8, U_167_10, U_167_12, U_167_14, U_167_15, XX, QQ, WW, KK, QX, SHs, RRs, Nat.reduceAdd, Nat.reduceMul, Nat.reduceLeDiff, Nat.reduceEqDiff, List.length_cons, List.length_nil, decide_true, decide_false, Bool.true_and, Bool.and_true, Bool.false_and, Bool.and_false, false_and, and_false, Bool.false_eq_true, Bool.true_eq_false, reduceCtorEq, eq_self, if_true, if_false, true_and, and_true, not_true_eq_false, not_false_eq_true, if_pos, if_neg, z_ite_not, false_or, or_false, true_or, or_true, SWs, swk_0, swk_1, i13, i14, i15, i16, i17, i18, i19, i20]
                  rfl
                · rw [decide_eq_false h20] at i20
                  have i21 := is 21 (by decide) (by decide)
                  by_cases h21 : strT 21 = t
                  · rw [rtk_w (w := 19) (by decide) h21]
                    rw [decide_eq_true h21] at i21
                    simp (disch := first | omega | assumption | exact rfl) only [U_167_0, U_167_2, U_167_4, U_167_6, U_167_8, U_167_10, U_167_12, U_167_14, U_167_16, U_167_17, U_167_19, XX, QQ, WW, KK, QX, SHs, RRs, Nat.reduceAdd, Nat.reduceMul, Nat.reduceLeDiff, Nat.reduceEqDiff, List.length_cons, List.length_nil, decide_true, decide_false, Bool.true_and, Bool.and_true, Bool.false_and, Bool.and_false, false_and, and_false, Bool.false_eq_true, Bool.true_eq_false, reduceCtorEq, eq_self, if_true, if_false, true_and, and_true, not_true_eq_false, not_false_eq_true, if_pos, if_neg, z_ite_not, false_or, or_false, true_or, or_true, SWs, swk_0, swk_1, i13, i14, i15, i16, i17, i18, i19, i20, i21]
                    rfl
                  · rw [decide_eq_false h21] at i21
                    have wy := wy d (by omega) (fun w h1 h2 h => by
                      rcases (by omega : w = 11 ∨ w = 12 ∨ w = 13 ∨ w = 14 ∨ w = 15 ∨ w = 16 ∨ w = 17 ∨ w = 18 ∨ w = 19) with q | q | q | q | q | q | q | q | q
                      · subst q; exact absurd h h13
                      · subst q; exact absurd h h14
                      · subst q; exact absurd h h15
                      · subst q; exact absurd h h16
                      · subst q; exact absurd h h17
                      · subst q; exact absurd h h18
                      · subst q; exact absurd h h19
                      · subst q; exact absurd h h20
                      · subst q; exact absurd h h21)
                    simp (disch := first | omega | assumption | exact rfl) only [U_167_0, U_167_2, U_167_4, U_167_6, U_167_8, U_167_10, U_167_12, U_167_14, U_167_16, U_167_18, U_167_19, XX, QQ, WW, KK, QX, SHs, RRs, Nat.reduceAdd, Nat.reduceMul, Nat.reduceLeDiff, Nat.reduceEqDiff, List.length_cons, List.length_nil, decide_true, decide_false, Bool.true_and, Bool.and_true, Bool.false_and, Bool.and_false, false_and, and_false, Bool.false_eq_true, Bool.true_eq_false, reduceCtorEq, eq_self, if_true, if_false, true_and, and_true, not_true_eq_false, not_false_eq_true, if_pos, if_neg, z_ite_not, false_or, or_false, true_or, or_true, SWs, swk_0, swk_1, i13, i14, i15, i16, i17, i18, i19, i20, i21, wy]
