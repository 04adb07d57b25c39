/-! ===== history, two, red ===== -/
theorem Inv_hi {I : Nat → Nat → Int32} {J : Nat → Nat → Int64} (h : Inv I J) : ∃ (n : Nat) (S : Nat → Nat → Nat), n ≤ 60 ∧ I 8 0 = nI n ∧ I 178 4 = nI n ∧ ∀ y, y < n → I 9 y = I 178 (1430 + 51 * y) ∧ I 10 y = I 178 (1430 + 51 * y + 1) ∧ I 11 y = I 178 (1430 + 51 * y + 2) ∧ ∀ b, b < 24 → S y b < 2 ^ 24 ∧ I 12 (y * 24 + b) = nI (S y b) ∧ I 178 (1430 + 51 * y + 3 + b) = nI (S y b) ∧ I 13 (y * 24 + b) = I 178 (1430 + 51 * y + 27 + b) := by
  obtain ⟨n, h1, h2, h3, h4⟩ := h.1.2.2.2.2.2.1
  refine ⟨n, fun y b => (I 12 (y * 24 + b)).toNatClampNeg, h1, h2, h3, fun y hy => ?_⟩
  obtain ⟨a1, a2, a3, a4⟩ := h4 y hy
  refine ⟨a1, a2, a3, fun b hb => ?_⟩
  obtain ⟨⟨S, q1, q2, q3⟩, q4⟩ := a4 b hb
  have q2' : I 12 (y * 24 + b) = nI S := q2
  have : (I 12 (y * 24 + b)).toNatClampNeg = S := by rw [q2', nI_clamp (by omega)]
  simp only [this]
  exact ⟨q1, q2, q3, q4⟩
theorem Inv_mt {I : Nat → Nat → Int32} {J : Nat → Nat → Int64} (h : Inv I J) : ∃ fi : Nat → Nat → Int32, (∀ b c, b < 24 → c < 24 → fi b c = fi c b ∧ I 178 (850 + 24 * b + c) = fi b c) ∧ (∀ b, b < 24 → fi b b = -1 ∧ I 178 (820 + b) = nI (mtS fi b)) ∧ (∀ b c, b < c → c < 24 → I 7 (b * 24 + c) = fi b c) ∧ I 1 4 = nI (metN fi) := h.1.2.2.2.2.1
theorem sm_le {f : Nat → Nat} (n : Nat) : fb_sm (fun b => pop (f b)) n ≤ n * 64 := fb_sm_bound (fun _ _ => pop_le _)
theorem n2ne : (nI 2 : Int32) ≠ 0 := by decide +kernel
theorem c_couplesIn {X : Nat × (Nat → Int32)} {d : Nat} {I : Nat → Nat → Int32} {J : Nat → Nat → Int64} {n y : Nat} {S : Nat → Nat → Nat} (hd : 2 ≤ d) (hy : y < n) (hn : n ≤ 60) (h8 : I 8 0 = nI n) (hS : ∀ b, b < 24 → S y b < 2 ^ 24 ∧ I 12 (y * 24 + b) = nI (S y b)) : callF X d 27 [.ref 8, .int (nI y)] (mk I J) = some (some (.int (nI (fb_sm (fun b => pop (S y b)) 24 / 2))), mk I J) := by
  refine callF_at (by omega) (by decide) (Nat.le_of_ble_eq_true rfl) (fun d _ => ?_)
  show Ev X d 27 0 [.ref 8, .int (nI y), .retAddr 0, .retAddr 0] [] ( mk I J) _
  simp (disch := first | omega | assumption | exact rfl) only [U_27_0, XX, QQ, WW, KK, QX, SHs, RRs, Nat.reduceAdd, Nat.reduceMul, Nat.reduceLeDiff, Nat.reduceEqDiff, List.length_cons, List.length_nil, decide_true, decide_false, Bool.true_and, Bool.and_true, Bool.false_and, Bool.and_false, false_and, and_false, Bool.false_eq_true, Bool.true_eq_false, reduceCtorEq, eq_self, if_true, if_false, true_and, and_true, not_true_eq_false, not_false_eq_true, if_pos, if_neg, z_ite_not, false_or, or_false, true_or, or_true, SWs, swk_0, swk_1]
  refine lp0 (n := 24) (P := fun k => Ev X d 27 1 [.ref 8, .int (nI y), .int (nI (fb_sm (fun b => pop (S y b)) k)), .int (nI k)] [] (mk I J) (some (.int (nI (fb_sm (fun b => pop (S y b)) 24 / 2))), mk I J)) ?_ ?_
  · rw [U_27_1]
    have := sm_le (f := S y) 24
    simp (disch := first | omega | assumption | exact rfl) only [U_27_4, XX, QQ, WW, KK, QX, SHs, RRs, Nat.reduceAdd, Nat.reduceMul, Nat.reduceLeDiff, Nat.reduceEqDiff, List.length_cons, List.length_nil, decide_true, decide_false, Bool.true_and, Bool.and_true, Bool.false_and, Bool.and_false, false_and, and_false, Bool.false_eq_true, Bool.true_eq_false, reduceCtorEq, eq_self, if_true, if_false, true_and, and_true, not_true_eq_false, not_false_eq_true, if_pos, if_neg, z_ite_not, false_or, or_false, true_or, or_true, SWs, swk_0, swk_1, q_div, n2ne]
  · intro k hk ih
    rw [U_27_1]
    rw [fb_sm_succ] at ih
    obtain ⟨e1, e2⟩ := hS k hk
    simp (disch := first | omega | assumption | exact rfl) only [U_27_2, U_27_3, XX, QQ, WW, KK, QX, SHs, RRs, Nat.reduceAdd, Nat.reduceMul, Nat.reduceLeDiff, Nat.reduceEqDiff, List.length_cons, List.length_nil, decide_true, decide_false, Bool.true_and, Bool.and_true, Bool.false_and, Bool.and_false, false_and, and_false, Bool.false_eq_true, Bool.true_eq_false, reduceCtorEq, eq_self, if_true, if_false, true_and, and_true, not_true_eq_false, not_false_eq_true, if_pos, if_neg, z_ite_not, false_or, or_false, true_or, or_true, SWs, swk_0, swk_1, h8, s_isOf, e2, s_bcI]
    exact ih
theorem r_together {X : Nat × (Nat → Int32)} {d : Nat} {I : Nat → Nat → Int32} {J : Nat → Nat → Int64} {y b : Nat} (hd : 1 ≤ d) (hy : y < 60) (hb : b < 24) : callF X d 233 [.ref 177, .int (nI y), .int (nI b)] (mk I J) = some (some (.int (I 178 (1430 + 51 * y + 3 + b))), mk I J) := by
  refine callF_at (by omega) (by decide) (Nat.le_of_ble_eq_true rfl) (fun d _ => ?_)
  show Ev X d 233 0 [.ref 177, .int (nI y), .int (nI b)] [] ( mk I J) _
  simp (disch := first | omega | assumption | exact rfl) only [U_233_0, XX, QQ, WW, KK, QX, SHs, RRs, Nat.reduceAdd, Nat.reduceMul, Nat.reduceLeDiff, Nat.reduceEqDiff, List.length_cons, List.length_nil, decide_true, decide_false, Bool.true_and, Bool.and_true, Bool.false_and, Bool.and_false, false_and, and_false, Bool.false_eq_true, Bool.true_eq_false, reduceCtorEq, eq_self, if_true, if_false, true_and, and_true, not_true_eq_false, not_false_eq_true, if_pos, if_neg, z_ite_not, false_or, or_false, true_or, or_true, SWs, swk_0, swk_1]
theorem b_history {X : Nat × (Nat → Int32)} {d : Nat} {I : Nat → Nat → Int32} {J : Nat → Nat → Int64} {u v : Int32} (hd : 4 ≤ d) (h : Inv I J) : Both X d 134 234 [.int u, .int v] I J := by
  obtain ⟨n, S, n60, h8, h4, hh⟩ := Inv_hi h
  rcases of_e u n (by omega) with ⟨y, hy, rfl⟩ | ⟨o1, o2⟩
  · obtain ⟨a1, a2, a3, a4⟩ := hh y hy
    rcases of_d v 3 4 rfl (by decide) with ⟨c, hc, rfl⟩ | ⟨o1, o2⟩
    · obtain rfl | rfl | rfl | rfl : c = 0 ∨ c = 1 ∨ c = 2 ∨ c = 3 := by omega
      · refine Both_0 (I 178 (1430 + 51 * y)) h ?_ ?_
        · refine callF_at (by omega) (by decide) (Nat.le_of_ble_eq_true rfl) (fun d _ => ?_)
          show Ev X d 134 0 [.ref 0, .int (nI y), .int (nI 0)] [] ( mk I J) _
          simp (disch := first | omega | assumption | exact rfl) only [U_134_0, U_134_1, U_134_2, U_134_3, U_134_4, U_134_5, U_134_6, U_134_7, XX, QQ, WW, KK, QX, SHs, RRs, Nat.reduceAdd, Nat.reduceMul, Nat.reduceLeDiff, Nat.reduceEqDiff, List.length_cons, List.length_nil, decide_true, decide_false, Bool.true_and, Bool.and_true, Bool.false_and, Bool.and_false, false_and, and_false, Bool.false_eq_true, Bool.true_eq_false, reduceCtorEq, eq_self, if_true, if_false, true_and, and_true, not_true_eq_false, not_false_eq_true, if_pos, if_neg, z_ite_not, false_or, or_false, true_or, or_true, SWs, swk_0, swk_1, s_isOf, h8, a1]
        · refine callF_at (by omega) (by decide) (Nat.le_of_ble_eq_true rfl) (fun d _ => ?_)
          show Ev X d 234 0 [.ref 177, .int (nI y), .int (nI 0), .retAddr 0, .retAddr 0] [] ( mk I J) _
          simp (disch := first | omega | assumption | exact rfl) only [U_234_0, U_234_1, U_234_2, U_234_3, U_234_4, XX, QQ, WW, KK, QX, SHs, RRs, Nat.reduceAdd, Nat.reduceMul, Nat.reduceLeDiff, Nat.reduceEqDiff, List.length_cons, List.length_nil, decide_true, decide_false, Bool.true_and, Bool.and_true, Bool.false_and, Bool.and_false, false_and, and_false, Bool.false_eq_true, Bool.true_eq_false, reduceCtorEq, eq_self, if_true, if_false, true_and, and_true, not_true_eq_false, not_false_eq_true, if_pos, if_neg, z_ite_not, false_or, or_false, true_or, or_true, SWs, swk_0, swk_1, r_isIn, h4, Nat.add_zero]
      · refine Both_0 (I 178 (1430 + 51 * y + 1)) h ?_ ?_
        · refine callF_at (by omega) (by decide) (Nat.le_of_ble_eq_true rfl) (fun d _ => ?_)
          show Ev X d 134 0 [.ref 0, .int (nI y), .int (nI 1)] [] ( mk I J) _
          simp (disch := first | omega | assumption | exact rfl) only [U_134_0, U_134_1, U_134_2, U_134_3, U_134_4, U_134_5, U_134_6, U_134_7, XX, QQ, WW, KK, QX, SHs, RRs, Nat.reduceAdd, Nat.reduceMul, Nat.reduceLeDiff, Nat.reduceEqDiff, List.length_cons, List.length_nil, decide_true, decide_false, Bool.true_and, Bool.and_true, Bool.false_and, Bool.and_false, false_and, and_false, Bool.false_eq_true, Bool.true_eq_false, reduceCtorEq, eq_self, if_true, if_false, true_and, and_true, not_true_eq_false, not_false_eq_true, if_pos, if_neg, z_ite_not, false_or, or_false, true_or, or_true, SWs, swk_0, swk_1, s_isOf, h8, a2]
        · refine callF_at (by omega) (by decide) (Nat.le_of_ble_eq_true rfl) (fun d _ => ?_)
          show Ev X d 234 0 [.ref 177, .int (nI y), .int (nI 1), .retAddr 0, .retAddr 0] [] ( mk I J) _
          simp (disch := first | omega | assumption | exact rfl) only [U_234_0, U_234_1, U_234_2, U_234_3, U_234_4, XX, QQ, WW, KK, QX, SHs, RRs, Nat.reduceAdd, Nat.reduceMul, Nat.reduceLeDiff, Nat.reduceEqDiff, List.length_cons, List.length_nil, decide_true, decide_false, Bool.true_and, Bool.and_true, Bool.false_and, Bool.and_false, false_and, and_false, Bool.false_eq_true, Bool.true_eq_false, reduceCtorEq, eq_self, if_true, if_false, true_and, and_true, not_true_eq_false, not_false_eq_true, if_pos, if_neg, z_ite_not, false_or, or_false, true_or, or_true, SWs, swk_0, swk_1, r_isIn, h4]
      · refine Both_0 (I 178 (1430 + 51 * y + 2)) h ?_ ?_
        · refine callF_at (by omega) (by decide) (Nat.le_of_ble_eq_true rfl) (fun d _ => ?_)
          show Ev X d 134 0 [.ref 0, .int (nI y), .int (nI 2)] [] ( mk I J) _
          simp (disch := first | omega | assumption | exact rfl) only [U_134_0, U_134_1, U_134_2, U_134_3, U_134_4, U_134_5, U_134_6, U_134_7, XX, QQ, WW, KK, QX, SHs, RRs, Nat.reduceAdd, Nat.reduceMul, Nat.reduceLeDiff, Nat.reduceEqDiff, List.length_cons, List.length_nil, decide_true, decide_false, Bool.true_and, Bool.and_true, Bool.false_and, Bool.and_false, false_and, and_false, Bool.false_eq_true, Bool.true_eq_false, reduceCtorEq, eq_self, if_true, if_false, true_and, and_true, not_true_eq_false, not_false_eq_true, if_pos, if_neg, z_ite_not, false_or, or_false, true_or, or_true, SWs, swk_0, swk_1, s_isOf, h8, a3]
        · refine callF_at (by omega) (by decide) (Nat.le_of_ble_eq_true rfl) (fun d _ => ?_)
          show Ev X d 234 0 [.ref 177, .int (nI y), .int (nI 2), .retAddr 0, .retAddr 0] [] ( mk I J) _
          simp (disch := first | omega | assumption | exact rfl) only [U_234_0, U_234_1, U_234_2, U_234_3, U_234_4, XX, QQ, WW, KK, QX, SHs, RRs, Nat.reduceAdd, Nat.reduceMul, Nat.reduceLeDiff, Nat.reduceEqDiff, List.length_cons, List.length_nil, decide_true, decide_false, Bool.true_and, Bool.and_true, Bool.false_and, Bool.and_false, false_and, and_false, Bool.false_eq_true, Bool.true_eq_false, reduceCtorEq, eq_self, if_true, if_false, true_and, and_true, not_true_eq_false, not_false_eq_true, if_pos, if_neg, z_ite_not, false_or, or_false, true_or, or_true, SWs, swk_0, swk_1, r_isIn, h4]
      · refine Both_0 (nI (fb_sm (fun b => pop (S y b)) 24 / 2)) h ?_ ?_
        · refine callF_at (by omega) (by decide) (Nat.le_of_ble_eq_true rfl) (fun d _ => ?_)
          show Ev X d 134 0 [.ref 0, .int (nI y), .int (nI 3)] [] ( mk I J) _
          have ci := c_couplesIn (X := X) (d := d) (J := J) (by omega) hy n60 h8 (fun b hb => ⟨(a4 b hb).1, (a4 b hb).2.1⟩)
          simp (disch := first | omega | assumption | exact rfl) only [U_134_0, U_134_1, U_134_2, U_134_3, U_134_4, U_134_5, U_134_6, U_134_7, XX, QQ, WW, KK, QX, SHs, RRs, Nat.reduceAdd, Nat.reduceMul, Nat.reduceLeDiff, Nat.reduceEqDiff, List.length_cons, List.length_nil, decide_true, decide_false, Bool.true_and, Bool.and_true, Bool.false_and, Bool.and_false, false_and, and_false, Bool.false_eq_true, Bool.true_eq_false, reduceCtorEq, eq_self, if_true, if_false, true_and, and_true, not_true_eq_false, not_false_eq_true, if_pos, if_neg, z_ite_not, false_or, or_false, true_or, or_true, SWs, swk_0, swk_1, s_isOf, h8, ci]
        · refine callF_at (by omega) (by decide) (Nat.le_of_ble_eq_true rfl) (fun d _ => ?_)
          show Ev X d 234 0 [.ref 177, .int (nI y), .int (nI 3), .retAddr 0, .retAddr 0] [] ( mk I J) _
          simp (disch := first | omega | assumption | exact rfl) only [U_234_0, U_234_1, U_234_3, U_234_5, XX, QQ, WW, KK, QX, SHs, RRs, Nat.reduceAdd, Nat.reduceMul, Nat.reduceLeDiff, Nat.reduceEqDiff, List.length_cons, List.length_nil, decide_true, decide_false, Bool.true_and, Bool.and_true, Bool.false_and, Bool.and_false, false_and, and_false, Bool.false_eq_true, Bool.true_eq_false, reduceCtorEq, eq_self, if_true, if_false, true_and, and_true, not_true_eq_false, not_false_eq_true, if_pos, if_neg, z_ite_not, false_or, or_false, true_or, or_true, SWs, swk_0, swk_1, r_isIn, h4]
          refine lp0 (n := 24) (P := fun k => Ev X d 234 6 [.ref 177, .int (nI y), .int (nI 3), .int (nI (fb_sm (fun b => pop (S y b)) k)), .int (nI k)] [] (mk I J) (some (.int (nI (fb_sm (fun b => pop (S y b)) 24 / 2))), mk I J)) ?_ ?_
          · rw [U_234_6]
            have := sm_le (f := S y) 24
            simp (disch := first | omega | assumption | exact rfl) only [U_234_8, XX, QQ, WW, KK, QX, SHs, RRs, Nat.reduceAdd, Nat.reduceMul, Nat.reduceLeDiff, Nat.reduceEqDiff, List.length_cons, List.length_nil, decide_true, decide_false, Bool.true_and, Bool.and_true, Bool.false_and, Bool.and_false, false_and, and_false, Bool.false_eq_true, Bool.true_eq_false, reduceCtorEq, eq_self, if_true, if_false, true_and, and_true, not_true_eq_false, not_false_eq_true, if_pos, if_neg, z_ite_not, false_or, or_false, true_or, or_true, SWs, swk_0, swk_1, q_div, n2ne]
          · intro k hk ih
            rw [U_234_6]
            rw [fb_sm_succ] at ih
            obtain ⟨e1, e2, e3, e4⟩ := a4 k hk
            simp (disch := first | omega | assumption | exact rfl) only [U_234_7, XX, QQ, WW, KK, QX, SHs, RRs, Nat.reduceAdd, Nat.reduceMul, Nat.reduceLeDiff, Nat.reduceEqDiff, List.length_cons, List.length_nil, decide_true, decide_false, Bool.true_and, Bool.and_true, Bool.false_and, Bool.and_false, false_and, and_false, Bool.false_eq_true, Bool.true_eq_false, reduceCtorEq, eq_self, if_true, if_false, true_and, and_true, not_true_eq_false, not_false_eq_true, if_pos, if_neg, z_ite_not, false_or, or_false, true_or, or_true, SWs, swk_0, swk_1, r_together, e3, r_count]
            exact ih
    · have nc : ∀ c, c < 4 → ¬ v = nI c := fun c hc z => by
        subst z
        have a1 := nI_pos' (show c < 2 ^ 31 by omega)
        have a2 := nI_lt hc (by decide)
        simp [a1, a2] at o1
      have c0 := nc 0 (by decide); have c1 := nc 1 (by decide); have c2 := nc 2 (by decide); have c3 := nc 3 (by decide)
      refine Both_0 (-1) h ?_ ?_
      · refine callF_at (by omega) (by decide) (Nat.le_of_ble_eq_true rfl) (fun d _ => ?_)
        show Ev X d 134 0 [.ref 0, .int (nI y), .int v] [] ( mk I J) _
        simp (disch := first | omega | assumption | exact rfl) only [U_134_0, U_134_1, U_134_2, U_134_3, U_134_4, U_134_5, U_134_6, U_134_7, XX, QQ, WW, KK, QX, SHs, RRs, Nat.reduceAdd, Nat.reduceMul, Nat.reduceLeDiff, Nat.reduceEqDiff, List.length_cons, List.length_nil, decide_true, decide_false, Bool.true_and, Bool.and_true, Bool.false_and, Bool.and_false, false_and, and_false, Bool.false_eq_true, Bool.true_eq_false, reduceCtorEq, eq_self, if_true, if_false, true_and, and_true, not_true_eq_false, not_false_eq_true, if_pos, if_neg, z_ite_not, false_or, or_false, true_or, or_true, SWs, swk_0, swk_1, s_isOf, h8, c0, c1, c2, c3]
      · refine callF_at (by omega) (by decide) (Nat.le_of_ble_eq_true rfl) (fun d _ => ?_)
        show Ev X d 234 0 [.ref 177, .int (nI y), .int v, .retAddr 0, .retAddr 0] [] ( mk I J) _
        simp (disch := first | omega | assumption | exact rfl) only [U_234_0, U_234_1, U_234_2, XX, QQ, WW, KK, QX, SHs, RRs, Nat.reduceAdd, Nat.reduceMul, Nat.reduceLeDiff, Nat.reduceEqDiff, List.length_cons, List.length_nil, decide_true, decide_false, Bool.true_and, Bool.and_true, Bool.false_and, Bool.and_false, false_and, and_false, Bool.false_eq_true, Bool.true_eq_false, reduceCtorEq, eq_self, if_true, if_false, true_and, and_true, not_true_eq_false, not_false_eq_true, if_pos, if_neg, z_ite_not, false_or, or_false, true_or, or_true, SWs, swk_0, swk_1, r_isIn, h4, o2]
  · refine Both_0 (-1) h ?_ ?_
    · refine callF_at (by omega) (by decide) (Nat.le_of_ble_eq_true rfl) (fun d _ => ?_)
      show Ev X d 134 0 [.ref 0, .int u, .int v] [] ( mk I J) _
      simp (disch := first | omega | assumption | exact rfl) only [U_134_0, U_134_1, U_134_2, U_134_3, U_134_4, U_134_5, U_134_6, U_134_7, XX, QQ, WW, KK, QX, SHs, RRs, Nat.reduceAdd, Nat.reduceMul, Nat.reduceLeDiff, Nat.reduceEqDiff, List.length_cons, List.length_nil, decide_true, decide_false, Bool.true_and, Bool.and_true, Bool.false_and, Bool.and_false, false_and, and_false, Bool.false_eq_true, Bool.true_eq_false, reduceCtorEq, eq_self, if_true, if_false, true_and, and_true, not_true_eq_false, not_false_eq_true, if_pos, if_neg, z_ite_not, false_or, or_false, true_or, or_true, SWs, swk_0, swk_1, s_isOf, h8, o1]
    · refine callF_at (by omega) (by decide) (Nat.le_of_ble_eq_true rfl) (fun d _ => ?_)
      show Ev X d 234 0 [.ref 177, .int u, .int v, .retAddr 0, .retAddr 0] [] ( mk I J) _
      simp (disch := first | omega | assumption | exact rfl) only [U_234_0, U_234_1, U_234_2, XX, QQ, WW, KK, QX, SHs, RRs, Nat.reduceAdd, Nat.reduceMul, Nat.reduceLeDiff, Nat.reduceEqDiff, List.length_cons, List.length_nil, decide_true, decide_false, Bool.true_and, Bool.and_true, Bool.false_and, Bool.and_false, false_and, and_false, Bool.false_eq_true, Bool.true_eq_false, reduceCtorEq, eq_self, if_true, if_false, true_and, and_true, not_true_eq_false, not_false_eq_true, if_pos, if_neg, z_ite_not, false_or, or_false, true_or, or_true, SWs, swk_0, swk_1, r_isIn, h4, o2]
theorem c_firstOf {X : Nat × (Nat → Int32)} {d : Nat} {I : Nat → Nat → Int32} {J : Nat → Nat → Int64} {a b : Nat} {fi : Nat → Nat → Int32} (hd : 2 ≤ d) (ha : a < 24) (hb : b < 24) (hab : a ≠ b) (h1 : ∀ b c, b < 24 → c < 24 → fi b c = fi c b) (h3 : ∀ b c, b < c → c < 24 → I 7 (b * 24 + c) = fi b c) : callF X d 108 [.ref 1, .int (nI a), .int (nI b)] (mk I J) = some (some (.int (fi a b)), mk I J) := by
  refine callF_at (by omega) (by decide) (Nat.le_of_ble_eq_true rfl) (fun d _ => ?_)
  show Ev X d 108 0 [.ref 1, .int (nI a), .int (nI b)] [] ( mk I J) _
  rcases Nat.lt_or_ge a b with h | h
  · have e := h3 a b h hb
    simp (disch := first | omega | assumption | exact rfl) only [U_108_0, U_108_1, U_108_2, U_108_3, XX, QQ, WW, KK, QX, SHs, RRs, Nat.reduceAdd, Nat.reduceMul, Nat.reduceLeDiff, Nat.reduceEqDiff, List.length_cons, List.length_nil, decide_true, decide_false, Bool.true_and, Bool.and_true, Bool.false_and, Bool.and_false, false_and, and_false, Bool.false_eq_true, Bool.true_eq_false, reduceCtorEq, eq_self, if_true, if_false, true_and, and_true, not_true_eq_false, not_false_eq_true, if_pos, if_neg, z_ite_not, false_or, or_false, true_or, or_true, SWs, swk_0, swk_1, s_isOf, e]
  · have e := h3 b a (by omega) ha
    rw [h1 a b ha hb]
    simp (disch := first | omega | assumption | exact rfl) only [U_108_0, U_108_1, U_108_2, U_108_3, XX, QQ, WW, KK, QX, SHs, RRs, Nat.reduceAdd, Nat.reduceMul, Nat.reduceLeDiff, Nat.reduceEqDiff, List.length_cons, List.length_nil, decide_true, decide_false, Bool.true_and, Bool.and_true, Bool.false_and, Bool.and_false, false_and, and_false, Bool.false_eq_true, Bool.true_eq_false, reduceCtorEq, eq_self, if_true, if_false, true_and, and_true, not_true_eq_false, not_false_eq_true, if_pos, if_neg, z_ite_not, false_or, or_false, true_or, or_true, SWs, swk_0, swk_1, s_isOf, e]
/-- the longest row of years apart, and the row that goes on -/
def apN (S : Nat → Nat → Nat) (a b : Nat) : Nat → Nat × Nat
  | 0 => (0, 0)
  | y + 1 => (max (apN S a b y).1 (if (S y a).testBit b = true then 0 else (apN S a b y).2 + 1), if (S y a).testBit b = true then 0 else (apN S a b y).2 + 1)
theorem apN_le (S : Nat → Nat → Nat) (a b : Nat) : ∀ y, (apN S a b y).1 ≤ y ∧ (apN S a b y).2 ≤ y
  | 0 => ⟨Nat.le_refl _, Nat.le_refl _⟩
  | y + 1 => by
    obtain ⟨h1, h2⟩ := apN_le S a b y
    simp only [apN]
    split <;> omega
theorem c_apart {X : Nat × (Nat → Int32)} {d : Nat} {I : Nat → Nat → Int32} {J : Nat → Nat → Int64} {n a b : Nat} {S : Nat → Nat → Nat} (hd : 2 ≤ d) (ha : a < 24) (hb : b < 24) (hn : n ≤ 60) (h8 : I 8 0 = nI n) (hS : ∀ y, y < n → S y a < 2 ^ 24 ∧ I 12 (y * 24 + a) = nI (S y a)) : callF X d 29 [.ref 8, .int (nI a), .int (nI b)] (mk I J) = some (some (.int (nI (apN S a b n).1)), mk I J) := by
  refine callF_at (by omega) (by decide) (Nat.le_of_ble_eq_true rfl) (fun d _ => ?_)
  show Ev X d 29 0 [.ref 8, .int (nI a), .int (nI b), .retAddr 0, .retAddr 0, .retAddr 0] [] ( mk I J) _
  simp (disch := first | omega | assumption | exact rfl) only [U_29_0, XX, QQ, WW, KK, QX, SHs, RRs, Nat.reduceAdd, Nat.reduceMul, Nat.reduceLeDiff, Nat.reduceEqDiff, List.length_cons, List.length_nil, decide_true, decide_false, Bool.true_and, Bool.and_true, Bool.false_and, Bool.and_false, false_and, and_false, Bool.false_eq_true, Bool.true_eq_false, reduceCtorEq, eq_self, if_true, if_false, true_and, and_true, not_true_eq_false, not_false_eq_true, if_pos, if_neg, z_ite_not, false_or, or_false, true_or, or_true, SWs, swk_0, swk_1]
  refine lp0 (n := n) (P := fun y => Ev X d 29 1 [.ref 8, .int (nI a), .int (nI b), .int (nI (apN S a b y).1), .int (nI (apN S a b y).2), .int (nI y)] [] (mk I J) (some (.int (nI (apN S a b n).1)), mk I J)) ?_ ?_
  · rw [U_29_1]
    simp (disch := first | omega | assumption | exact rfl) only [U_29_7, XX, QQ, WW, KK, QX, SHs, RRs, Nat.reduceAdd, Nat.reduceMul, Nat.reduceLeDiff, Nat.reduceEqDiff, List.length_cons, List.length_nil, decide_true, decide_false, Bool.true_and, Bool.and_true, Bool.false_and, Bool.and_false, false_and, and_false, Bool.false_eq_true, Bool.true_eq_false, reduceCtorEq, eq_self, if_true, if_false, true_and, and_true, not_true_eq_false, not_false_eq_true, if_pos, if_neg, z_ite_not, false_or, or_false, true_or, or_true, SWs, swk_0, swk_1, h8]
  · intro y hy ih
    rw [U_29_1]
    obtain ⟨l1, l2⟩ := apN_le S a b y
    obtain ⟨e1, e2⟩ := hS y hy
    simp only [apN] at ih
    cases ht : (S y a).testBit b with
    | true =>
      rw [ht] at ih
      rw [if_pos rfl, Nat.max_eq_left (by omega)] at ih
      simp (disch := first | omega | assumption | exact rfl) only [U_29_2, U_29_3, U_29_4, U_29_5, U_29_6, XX, QQ, WW, KK, QX, SHs, RRs, Nat.reduceAdd, Nat.reduceMul, Nat.reduceLeDiff, Nat.reduceEqDiff, List.length_cons, List.length_nil, decide_true, decide_false, Bool.true_and, Bool.and_true, Bool.false_and, Bool.and_false, false_and, and_false, Bool.false_eq_true, Bool.true_eq_false, reduceCtorEq, eq_self, if_true, if_false, true_and, and_true, not_true_eq_false, not_false_eq_true, if_pos, if_neg, z_ite_not, false_or, or_false, true_or, or_true, SWs, swk_0, swk_1, h8, s_isOf, e2, ht]
      exact ih
    | false =>
      rw [ht] at ih
      rw [if_neg (by simp)] at ih
      by_cases z : (apN S a b y).1 < (apN S a b y).2 + 1
      · rw [Nat.max_eq_right (by omega)] at ih
        simp (disch := first | omega | assumption | exact rfl) only [U_29_2, U_29_3, U_29_4, U_29_5, U_29_6, XX, QQ, WW, KK, QX, SHs, RRs, Nat.reduceAdd, Nat.reduceMul, Nat.reduceLeDiff, Nat.reduceEqDiff, List.length_cons, List.length_nil, decide_true, decide_false, Bool.true_and, Bool.and_true, Bool.false_and, Bool.and_false, false_and, and_false, Bool.false_eq_true, Bool.true_eq_false, reduceCtorEq, eq_self, if_true, if_false, true_and, and_true, not_true_eq_false, not_false_eq_true, if_pos, if_neg, z_ite_not, false_or, or_false, true_or, or_true, SWs, swk_0, swk_1, h8, s_isOf, e2, ht]
        exact ih
      · rw [Nat.max_eq_left (by omega)] at ih
        simp (disch := first | omega | assumption | exact rfl) only [U_29_2, U_29_3, U_29_4, U_29_5, U_29_6, XX, QQ, WW, KK, QX, SHs, RRs, Nat.reduceAdd, Nat.reduceMul, Nat.reduceLeDiff, Nat.reduceEqDiff, List.length_cons, List.length_nil, decide_true, decide_false, Bool.true_and, Bool.and_true, Bool.false_and, Bool.and_false, false_and, and_false, Bool.false_eq_true, Bool.true_eq_false, reduceCtorEq, eq_self, if_true, if_false, true_and, and_true, not_true_eq_false, not_false_eq_true, if_pos, if_neg, z_ite_not, false_or, or_false, true_or, or_true, SWs, swk_0, swk_1, h8, s_isOf, e2, ht]
        exact ih
theorem mtS_lt (fi : Nat → Nat → Int32) (b : Nat) : mtS fi b < 2 ^ 24 := bs_lt _
theorem b_two {X : Nat × (Nat → Int32)} {d : Nat} {I : Nat → Nat → Int32} {J : Nat → Nat → Int64} {u v w : Int32} (hd : 4 ≤ d) (h : Inv I J) : Both X d 137 239 [.int u, .int v, .int w] I J := by
  obtain ⟨n, S, n60, h8, h4, hh⟩ := Inv_hi h
  obtain ⟨fi, f1, f2, f3, f4⟩ := Inv_mt h
  rcases of_d u 23 24 rfl (by decide) with ⟨a, ha, rfl⟩ | ⟨o1, o2⟩
  · rcases of_d v 23 24 rfl (by decide) with ⟨b, hb, rfl⟩ | ⟨o1, o2⟩
    · by_cases hab : a = b
      · subst hab
        refine Both_0 (-2) h ?_ ?_
        · refine callF_at (by omega) (by decide) (Nat.le_of_ble_eq_true rfl) (fun d _ => ?_)
          show Ev X d 137 0 [.ref 0, .int (nI a), .int (nI a), .int w] [] ( mk I J) _
          simp (disch := first | omega | assumption | exact rfl) only [U_137_0, U_137_1, U_137_2, U_137_3, XX, QQ, WW, KK, QX, SHs, RRs, Nat.reduceAdd, Nat.reduceMul, Nat.reduceLeDiff, Nat.reduceEqDiff, List.length_cons, List.length_nil, decide_true, decide_false, Bool.true_and, Bool.and_true, Bool.false_and, Bool.and_false, false_and, and_false, Bool.false_eq_true, Bool.true_eq_false, reduceCtorEq, eq_self, if_true, if_false, true_and, and_true, not_true_eq_false, not_false_eq_true, if_pos, if_neg, z_ite_not, false_or, or_false, true_or, or_true, SWs, swk_0, swk_1, s_isOf]
        · refine callF_at (by omega) (by decide) (Nat.le_of_ble_eq_true rfl) (fun d _ => ?_)
          show Ev X d 239 0 [.ref 177, .int (nI a), .int (nI a), .int w, .retAddr 0, .retAddr 0, .retAddr 0] [] ( mk I J) _
          simp (disch := first | omega | assumption | exact rfl) only [U_239_0, U_239_1, U_239_2, U_239_3, U_239_4, XX, QQ, WW, KK, QX, SHs, RRs, Nat.reduceAdd, Nat.reduceMul, Nat.reduceLeDiff, Nat.reduceEqDiff, List.length_cons, List.length_nil, decide_true, decide_false, Bool.true_and, Bool.and_true, Bool.false_and, Bool.and_false, false_and, and_false, Bool.false_eq_true, Bool.true_eq_false, reduceCtorEq, eq_self, if_true, if_false, true_and, and_true, not_true_eq_false, not_false_eq_true, if_pos, if_neg, z_ite_not, false_or, or_false, true_or, or_true, SWs, swk_0, swk_1, r_isBrick, q_0]
      · have fo := fun d hd => c_firstOf (X := X) (d := d) (J := J) hd ha hb hab (fun b c x y => (f1 b c x y).1) f3
        have e1 := (f1 a b ha hb).2
        have e2 := (f2 a ha).2
        have e3 := mtS_lt fi a
        rcases of_d w 2 3 rfl (by decide) with ⟨c, hc, rfl⟩ | ⟨o1, o2⟩
        · obtain rfl | rfl | rfl : c = 0 ∨ c = 1 ∨ c = 2 := by omega
          · refine Both_0 (fi a b) h ?_ ?_
            · refine callF_at (by omega) (by decide) (Nat.le_of_ble_eq_true rfl) (fun d _ => ?_)
              show Ev X d 137 0 [.ref 0, .int (nI a), .int (nI b), .int (nI 0)] [] ( mk I J) _
              have fo := fo d (by omega)
              simp (disch := first | omega | assumption | exact rfl) only [U_137_0, U_137_1, U_137_2, U_137_4, U_137_5, U_137_6, U_137_7, U_137_8, U_137_9, U_137_10, U_137_11, XX, QQ, WW, KK, QX, SHs, RRs, Nat.reduceAdd, Nat.reduceMul, Nat.reduceLeDiff, Nat.reduceEqDiff, List.length_cons, List.length_nil, decide_true, decide_false, Bool.true_and, Bool.and_true, Bool.false_and, Bool.and_false, false_and, and_false, Bool.false_eq_true, Bool.true_eq_false, reduceCtorEq, eq_self, if_true, if_false, true_and, and_true, not_true_eq_false, not_false_eq_true, if_pos, if_neg, z_ite_not, false_or, or_false, true_or, or_true, SWs, swk_0, swk_1, s_isOf, fo]
            · refine callF_at (by omega) (by decide) (Nat.le_of_ble_eq_true rfl) (fun d _ => ?_)
              show Ev X d 239 0 [.ref 177, .int (nI a), .int (nI b), .int (nI 0), .retAddr 0, .retAddr 0, .retAddr 0] [] ( mk I J) _
              simp (disch := first | omega | assumption | exact rfl) only [U_239_0, U_239_1, U_239_2, U_239_3, U_239_4, U_239_5, U_239_6, XX, QQ, WW, KK, QX, SHs, RRs, Nat.reduceAdd, Nat.reduceMul, Nat.reduceLeDiff, Nat.reduceEqDiff, List.length_cons, List.length_nil, decide_true, decide_false, Bool.true_and, Bool.and_true, Bool.false_and, Bool.and_false, false_and, and_false, Bool.false_eq_true, Bool.true_eq_false, reduceCtorEq, eq_self, if_true, if_false, true_and, and_true, not_true_eq_false, not_false_eq_true, if_pos, if_neg, z_ite_not, false_or, or_false, true_or, or_true, SWs, swk_0, swk_1, r_isBrick, r_isIn, e1]
          · refine Both_0 (nI (apN S a b n).1) h ?_ ?_
            · refine callF_at (by omega) (by decide) (Nat.le_of_ble_eq_true rfl) (fun d _ => ?_)
              show Ev X d 137 0 [.ref 0, .int (nI a), .int (nI b), .int (nI 1)] [] ( mk I J) _
              have ca := c_apart (X := X) (d := d) (J := J) (by omega) ha hb n60 h8 (fun y hy => ⟨((hh y hy).2.2.2 a ha).1, ((hh y hy).2.2.2 a ha).2.1⟩)
              simp (disch := first | omega | assumption | exact rfl) only [U_137_0, U_137_1, U_137_2, U_137_4, U_137_5, U_137_6, U_137_7, U_137_8, U_137_9, U_137_10, U_137_11, XX, QQ, WW, KK, QX, SHs, RRs, Nat.reduceAdd, Nat.reduceMul, Nat.reduceLeDiff, Nat.reduceEqDiff, List.length_cons, List.length_nil, decide_true, decide_false, Bool.true_and, Bool.and_true, Bool.false_and, Bool.and_false, false_and, and_false, Bool.false_eq_true, Bool.true_eq_false, reduceCtorEq, eq_self, if_true, if_false, true_and, and_true, not_true_eq_false, not_false_eq_true, if_pos, if_neg, z_ite_not, false_or, or_false, true_or, or_true, SWs, swk_0, swk_1, s_isOf, ca]
            · refine callF_at (by omega) (by decide) (Nat.le_of_ble_eq_true rfl) (fun d _ => ?_)
              show Ev X d 239 0 [.ref 177, .int (nI a), .int (nI b), .int (nI 1), .retAddr 0, .retAddr 0, .retAddr 0] [] ( mk I J) _
              simp (disch := first | omega | assumption | exact rfl) only [U_239_0, U_239_1, U_239_2, U_239_3, U_239_5, U_239_7, U_239_9, XX, QQ, WW, KK, QX, SHs, RRs, Nat.reduceAdd, Nat.reduceMul, Nat.reduceLeDiff, Nat.reduceEqDiff, List.length_cons, List.length_nil, decide_true, decide_false, Bool.true_and, Bool.and_true, Bool.false_and, Bool.and_false, false_and, and_false, Bool.false_eq_true, Bool.true_eq_false, reduceCtorEq, eq_self, if_true, if_false, true_and, and_true, not_true_eq_false, not_false_eq_true, if_pos, if_neg, z_ite_not, false_or, or_false, true_or, or_true, SWs, swk_0, swk_1, r_isBrick, r_isIn]
              refine lp0 (n := n) (P := fun y => Ev X d 239 10 [.ref 177, .int (nI a), .int (nI b), .int (nI 1), .int (nI (apN S a b y).1), .int (nI (apN S a b y).2), .int (nI y)] [] (mk I J) (some (.int (nI (apN S a b n).1)), mk I J)) ?_ ?_
              · rw [U_239_10]
                simp (disch := first | omega | assumption | exact rfl) only [U_239_18, XX, QQ, WW, KK, QX, SHs, RRs, Nat.reduceAdd, Nat.reduceMul, Nat.reduceLeDiff, Nat.reduceEqDiff, List.length_cons, List.length_nil, decide_true, decide_false, Bool.true_and, Bool.and_true, Bool.false_and, Bool.and_false, false_and, and_false, Bool.false_eq_true, Bool.true_eq_false, reduceCtorEq, eq_self, if_true, if_false, true_and, and_true, not_true_eq_false, not_false_eq_true, if_pos, if_neg, z_ite_not, false_or, or_false, true_or, or_true, SWs, swk_0, swk_1, h4]
              · intro y hy ih
                rw [U_239_10]
                obtain ⟨l1, l2⟩ := apN_le S a b y
                obtain ⟨g1, g2, g3, g4⟩ := (hh y hy).2.2.2 a ha
                simp only [apN] at ih
                cases ht : (S y a).testBit b with
                | true =>
                  rw [ht] at ih
                  rw [if_pos rfl, Nat.max_eq_left (by omega)] at ih
                  simp (disch := first | omega | assumption | exact rfl) only [U_239_11, U_239_12, U_239_13, U_239_14, U_239_15, U_239_16, U_239_17, XX, QQ, WW, KK, QX, SHs, RRs, Nat.reduceAdd, Nat.reduceMul, Nat.reduceLeDiff, Nat.reduceEqDiff, List.length_cons, List.length_nil, decide_true, decide_false, Bool.true_and, Bool.and_true, Bool.false_and, Bool.and_false, false_and, and_false, Bool.false_eq_true, Bool.true_eq_false, reduceCtorEq, eq_self, if_true, if_false, true_and, and_true, not_true_eq_false, not_false_eq_true, if_pos, if_neg, z_ite_not, false_or, or_false, true_or, or_true, SWs, swk_0, swk_1, h4, r_together, g3, ht]
                  exact ih
                | false =>
                  rw [ht] at ih
                  rw [if_neg (by simp)] at ih
                  by_cases z : (apN S a b y).1 < (apN S a b y).2 + 1
                  · rw [Nat.max_eq_right (by omega)] at ih
                    simp (disch := first | omega | assumption | exact rfl) only [U_239_11, U_239_12, U_239_13, U_239_14, U_239_15, U_239_16, U_239_17, XX, QQ, WW, KK, QX, SHs, RRs, Nat.reduceAdd, Nat.reduceMul, Nat.reduceLeDiff, Nat.reduceEqDiff, List.length_cons, List.length_nil, decide_true, decide_false, Bool.true_and, Bool.and_true, Bool.false_and, Bool.and_false, false_and, and_false, Bool.false_eq_true, Bool.true_eq_false, reduceCtorEq, eq_self, if_true, if_false, true_and, and_true, not_true_eq_false, not_false_eq_true, if_pos, if_neg, z_ite_not, false_or, or_false, true_or, or_true, SWs, swk_0, swk_1, h4, r_together, g3, ht]
                    exact ih
                  · rw [Nat.max_eq_left (by omega)] at ih
                    simp (disch := first | omega | assumption | exact rfl) only [U_239_11, U_239_12, U_239_13, U_239_14, U_239_15, U_239_16, U_239_17, XX, QQ, WW, KK, QX, SHs, RRs, Nat.reduceAdd, Nat.reduceMul, Nat.reduceLeDiff, Nat.reduceEqDiff, List.length_cons, List.length_nil, decide_true, decide_false, Bool.true_and, Bool.and_true, Bool.false_and, Bool.and_false, false_and, and_false, Bool.false_eq_true, Bool.true_eq_false, reduceCtorEq, eq_self, if_true, if_false, true_and, and_true, not_true_eq_false, not_false_eq_true, if_pos, if_neg, z_ite_not, false_or, or_false, true_or, or_true, SWs, swk_0, swk_1, h4, r_together, g3, ht]
                    exact ih
          · have et : (mtS fi a).testBit b = decide (¬ fi a b = -1) := by
              rw [Bool.eq_iff_iff, decide_eq_true_iff]
              unfold mtS
              rw [bs_tb]
              exact ⟨fun z => z.2, fun z => ⟨hb, z⟩⟩
            refine Both_0 (bI (decide (¬ fi a b = -1))) h ?_ ?_
            · refine callF_at (by omega) (by decide) (Nat.le_of_ble_eq_true rfl) (fun d _ => ?_)
              show Ev X d 137 0 [.ref 0, .int (nI a), .int (nI b), .int (nI 2)] [] ( mk I J) _
              have fo := fo d (by omega)
              by_cases z : fi a b = -1
              · rw [z] at fo ⊢
                simp (disch := first | omega | assumption | exact rfl) only [U_137_0, U_137_1, U_137_2, U_137_4, U_137_5, U_137_6, U_137_7, U_137_8, U_137_9, U_137_10, U_137_11, XX, QQ, WW, KK, QX, SHs, RRs, Nat.reduceAdd, Nat.reduceMul, Nat.reduceLeDiff, Nat.reduceEqDiff, List.length_cons, List.length_nil, decide_true, decide_false, Bool.true_and, Bool.and_true, Bool.false_and, Bool.and_false, false_and, and_false, Bool.false_eq_true, Bool.true_eq_false, reduceCtorEq, eq_self, if_true, if_false, true_and, and_true, not_true_eq_false, not_false_eq_true, if_pos, if_neg, z_ite_not, false_or, or_false, true_or, or_true, SWs, swk_0, swk_1, s_isOf, fo]
              · simp (disch := first | omega | assumption | exact rfl) only [U_137_0, U_137_1, U_137_2, U_137_4, U_137_5, U_137_6, U_137_7, U_137_8, U_137_9, U_137_10, U_137_11, XX, QQ, WW, KK, QX, SHs, RRs, Nat.reduceAdd, Nat.reduceMul, Nat.reduceLeDiff, Nat.reduceEqDiff, List.length_cons, List.length_nil, decide_true, decide_false, Bool.true_and, Bool.and_true, Bool.false_and, Bool.and_false, false_and, and_false, Bool.false_eq_true, Bool.true_eq_false, reduceCtorEq, eq_self, if_true, if_false, true_and, and_true, not_true_eq_false, not_false_eq_true, if_pos, if_neg, z_ite_not, false_or, or_false, true_or, or_true, SWs, swk_0, swk_1, s_isOf, fo, z]
            · refine callF_at (by omega) (by decide) (Nat.le_of_ble_eq_true rfl) (fun d _ => ?_)
              show Ev X d 239 0 [.ref 177, .int (nI a), .int (nI b), .int (nI 2), .retAddr 0, .retAddr 0, .retAddr 0] [] ( mk I J) _
              simp (disch := first | omega | assumption | exact rfl) only [U_239_0, U_239_1, U_239_2, U_239_3, U_239_5, U_239_7, U_239_8, XX, QQ, WW, KK, QX, SHs, RRs, Nat.reduceAdd, Nat.reduceMul, Nat.reduceLeDiff, Nat.reduceEqDiff, List.length_cons, List.length_nil, decide_true, decide_false, Bool.true_and, Bool.and_true, Bool.false_and, Bool.and_false, false_and, and_false, Bool.false_eq_true, Bool.true_eq_false, reduceCtorEq, eq_self, if_true, if_false, true_and, and_true, not_true_eq_false, not_false_eq_true, if_pos, if_neg, z_ite_not, false_or, or_false, true_or, or_true, SWs, swk_0, swk_1, r_isBrick, r_isIn, e2, et]
        · have nc : ∀ c, c < 3 → ¬ w = nI c := fun c hc z => by
            subst z
            have a1 := nI_pos' (show c < 2 ^ 31 by omega)
            have a2 := nI_lt hc (by decide)
            simp [a1, a2] at o1
          have c0 := nc 0 (by decide); have c1 := nc 1 (by decide); have c2 := nc 2 (by decide)
          refine Both_0 (-2) h ?_ ?_
          · refine callF_at (by omega) (by decide) (Nat.le_of_ble_eq_true rfl) (fun d _ => ?_)
            show Ev X d 137 0 [.ref 0, .int (nI a), .int (nI b), .int w] [] ( mk I J) _
            simp (disch := first | omega | assumption | exact rfl) only [U_137_0, U_137_1, U_137_2, U_137_4, U_137_11, XX, QQ, WW, KK, QX, SHs, RRs, Nat.reduceAdd, Nat.reduceMul, Nat.reduceLeDiff, Nat.reduceEqDiff, List.length_cons, List.length_nil, decide_true, decide_false, Bool.true_and, Bool.and_true, Bool.false_and, Bool.and_false, false_and, and_false, Bool.false_eq_true, Bool.true_eq_false, reduceCtorEq, eq_self, if_true, if_false, true_and, and_true, not_true_eq_false, not_false_eq_true, if_pos, if_neg, z_ite_not, false_or, or_false, true_or, or_true, SWs, swk_0, swk_1, s_isOf, c0, c1, c2]
          · refine callF_at (by omega) (by decide) (Nat.le_of_ble_eq_true rfl) (fun d _ => ?_)
            show Ev X d 239 0 [.ref 177, .int (nI a), .int (nI b), .int w, .retAddr 0, .retAddr 0, .retAddr 0] [] ( mk I J) _
            simp (disch := first | omega | assumption | exact rfl) only [U_239_0, U_239_1, U_239_2, U_239_3, U_239_4, XX, QQ, WW, KK, QX, SHs, RRs, Nat.reduceAdd, Nat.reduceMul, Nat.reduceLeDiff, Nat.reduceEqDiff, List.length_cons, List.length_nil, decide_true, decide_false, Bool.true_and, Bool.and_true, Bool.false_and, Bool.and_false, false_and, and_false, Bool.false_eq_true, Bool.true_eq_false, reduceCtorEq, eq_self, if_true, if_false, true_and, and_true, not_true_eq_false, not_false_eq_true, if_pos, if_neg, z_ite_not, false_or, or_false, true_or, or_true, SWs, swk_0, swk_1, r_isBrick, r_isIn, o2]
    · refine Both_0 (-2) h ?_ ?_
      · refine callF_at (by omega) (by decide) (Nat.le_of_ble_eq_true rfl) (fun d _ => ?_)
        show Ev X d 137 0 [.ref 0, .int (nI a), .int v, .int w] [] ( mk I J) _
        simp (disch := first | omega | assumption | exact rfl) only [U_137_0, U_137_1, U_137_2, U_137_3, XX, QQ, WW, KK, QX, SHs, RRs, Nat.reduceAdd, Nat.reduceMul, Nat.reduceLeDiff, Nat.reduceEqDiff, List.length_cons, List.length_nil, decide_true, decide_false, Bool.true_and, Bool.and_true, Bool.false_and, Bool.and_false, false_and, and_false, Bool.false_eq_true, Bool.true_eq_false, reduceCtorEq, eq_self, if_true, if_false, true_and, and_true, not_true_eq_false, not_false_eq_true, if_pos, if_neg, z_ite_not, false_or, or_false, true_or, or_true, SWs, swk_0, swk_1, s_isOf, o1]
      · refine callF_at (by omega) (by decide) (Nat.le_of_ble_eq_true rfl) (fun d _ => ?_)
        show Ev X d 239 0 [.ref 177, .int (nI a), .int v, .int w, .retAddr 0, .retAddr 0, .retAddr 0] [] ( mk I J) _
        simp (disch := first | omega | assumption | exact rfl) only [U_239_0, U_239_1, U_239_2, U_239_3, U_239_4, XX, QQ, WW, KK, QX, SHs, RRs, Nat.reduceAdd, Nat.reduceMul, Nat.reduceLeDiff, Nat.reduceEqDiff, List.length_cons, List.length_nil, decide_true, decide_false, Bool.true_and, Bool.and_true, Bool.false_and, Bool.and_false, false_and, and_false, Bool.false_eq_true, Bool.true_eq_false, reduceCtorEq, eq_self, if_true, if_false, true_and, and_true, not_true_eq_false, not_false_eq_true, if_pos, if_neg, z_ite_not, false_or, or_false, true_or, or_true, SWs, swk_0, swk_1, r_isBrick, o2]
  · refine Both_0 (-2) h ?_ ?_
    · refine callF_at (by omega) (by decide) (Nat.le_of_ble_eq_true rfl) (fun d _ => ?_)
      show Ev X d 137 0 [.ref 0, .int u, .int v, .int w] [] ( mk I J) _
      simp (disch := first | omega | assumption | exact rfl) only [U_137_0, U_137_1, U_137_2, U_137_3, XX, QQ, WW, KK, QX, SHs, RRs, Nat.reduceAdd, Nat.reduceMul, Nat.reduceLeDiff, Nat.reduceEqDiff, List.length_cons, List.length_nil, decide_true, decide_false, Bool.true_and, Bool.and_true, Bool.false_and, Bool.and_false, false_and, and_false, Bool.false_eq_true, Bool.true_eq_false, reduceCtorEq, eq_self, if_true, if_false, true_and, and_true, not_true_eq_false, not_false_eq_true, if_pos, if_neg, z_ite_not, false_or, or_false, true_or, or_true, SWs, swk_0, swk_1, s_isOf, o1]
    · refine callF_at (by omega) (by decide) (Nat.le_of_ble_eq_true rfl) (fun d _ => ?_)
      show Ev X d 239 0 [.ref 177, .int u, .int v, .int w, .retAddr 0, .retAddr 0, .retAddr 0] [] ( mk I J) _
      simp (disch := first | omega | assumption | exact rfl) only [U_239_0, U_239_1, U_239_2, U_239_3, U_239_4, XX, QQ, WW, KK, QX, SHs, RRs, Nat.reduceAdd, Nat.reduceMul, Nat.reduceLeDiff, Nat.reduceEqDiff, List.length_cons, List.length_nil, decide_true, decide_false, Bool.true_and, Bool.and_true, Bool.false_and, Bool.and_false, false_and, and_false, Bool.false_eq_true, Bool.true_eq_false, reduceCtorEq, eq_self, if_true, if_false, true_and, and_true, not_true_eq_false, not_false_eq_true, if_pos, if_neg, z_ite_not, false_or, or_false, true_or, or_true, SWs, swk_0, swk_1, r_isBrick, o2]
theorem c_leftOf {X : Nat × (Nat → Int32)} {d : Nat} {I : Nat → Nat → Int32} {J : Nat → Nat → Int64} {n y b : Nat} (hd : 2 ≤ d) (hb : b < 24) (hn : n ≤ 60) (hy : y < 60) (h8 : I 8 0 = nI n) : callF X d 30 [.ref 8, .int (nI y), .int (nI b)] (mk I J) = some (some (.int (if y < n then I 13 (y * 24 + b) else -1)), mk I J) := by
  refine callF_at (by omega) (by decide) (Nat.le_of_ble_eq_true rfl) (fun d _ => ?_)
  show Ev X d 30 0 [.ref 8, .int (nI y), .int (nI b)] [] ( mk I J) _
  by_cases h : y < n
  · simp (disch := first | omega | assumption | exact rfl) only [U_30_0, U_30_1, U_30_2, U_30_3, U_30_4, XX, QQ, WW, KK, QX, SHs, RRs, Nat.reduceAdd, Nat.reduceMul, Nat.reduceLeDiff, Nat.reduceEqDiff, List.length_cons, List.length_nil, decide_true, decide_false, Bool.true_and, Bool.and_true, Bool.false_and, Bool.and_false, false_and, and_false, Bool.false_eq_true, Bool.true_eq_false, reduceCtorEq, eq_self, if_true, if_false, true_and, and_true, not_true_eq_false, not_false_eq_true, if_pos, if_neg, z_ite_not, false_or, or_false, true_or, or_true, SWs, swk_0, swk_1, s_isOf, h8]
  · simp (disch := first | omega | assumption | exact rfl) only [U_30_0, U_30_1, U_30_2, U_30_3, U_30_4, XX, QQ, WW, KK, QX, SHs, RRs, Nat.reduceAdd, Nat.reduceMul, Nat.reduceLeDiff, Nat.reduceEqDiff, List.length_cons, List.length_nil, decide_true, decide_false, Bool.true_and, Bool.and_true, Bool.false_and, Bool.and_false, false_and, and_false, Bool.false_eq_true, Bool.true_eq_false, reduceCtorEq, eq_self, if_true, if_false, true_and, and_true, not_true_eq_false, not_false_eq_true, if_pos, if_neg, z_ite_not, false_or, or_false, true_or, or_true, SWs, swk_0, swk_1, s_isOf, h8]
theorem b_red {X : Nat × (Nat → Int32)} {d : Nat} {I : Nat → Nat → Int32} {J : Nat → Nat → Int64} {u v : Int32} (hd : 5 ≤ d) (h : Inv I J) : Both X d 149 256 [.int u, .int v] I J := by
  obtain ⟨n, S, n60, h8, h4, hh⟩ := Inv_hi h
  rcases of_d u 23 24 rfl (by decide) with ⟨b, hb, rfl⟩ | ⟨o1, o2⟩
  · rcases of_d v 1 2 rfl (by decide) with ⟨c, hc, rfl⟩ | ⟨o1, o2⟩
    · obtain ⟨lf, hlf⟩ : ∃ lf, lf = if 0 < n then I 13 b else -1 := ⟨_, rfl⟩
      have cl := fun d hd => c_leftOf (X := X) (d := d) (J := J) (y := 0) hd hb n60 (by decide) h8
      rw [Nat.zero_mul, Nat.zero_add, ← hlf] at cl
      have h13 : 0 < n → I 178 (1457 + b) = I 13 b := fun z => by
        have := ((hh 0 z).2.2.2 b hb).2.2.2
        rw [Nat.zero_mul, Nat.zero_add] at this
        rw [this]
      have rl : ∀ d, 4 ≤ d → ∀ r, Ev X d 256 6 [.ref 177, .int (nI b), .int (nI c), .retAddr 0, .retAddr 0, .retAddr 0] [.int lf] (mk I J) r → Ev X d 256 0 [.ref 177, .int (nI b), .int (nI c), .retAddr 0, .retAddr 0, .retAddr 0] [] (mk I J) r := by
        intro d hd r hr
        by_cases z : 0 < n
        · rw [hlf, if_pos z] at hr
          have e := h13 z
          simp (disch := first | omega | assumption | exact rfl) only [U_256_0, U_256_1, U_256_3, U_256_4, U_256_5, XX, QQ, WW, KK, QX, SHs, RRs, Nat.reduceAdd, Nat.reduceMul, Nat.reduceLeDiff, Nat.reduceEqDiff, List.length_cons, List.length_nil, decide_true, decide_false, Bool.true_and, Bool.and_true, Bool.false_and, Bool.and_false, false_and, and_false, Bool.false_eq_true, Bool.true_eq_false, reduceCtorEq, eq_self, if_true, if_false, true_and, and_true, not_true_eq_false, not_false_eq_true, if_pos, if_neg, z_ite_not, false_or, or_false, true_or, or_true, SWs, swk_0, swk_1, r_isBrick, r_isIn, h4, e]
          exact hr
        · rw [hlf, if_neg z] at hr
          have e : n = 0 := by omega
          subst e
          simp (disch := first | omega | assumption | exact rfl) only [U_256_0, U_256_1, U_256_3, U_256_4, U_256_5, XX, QQ, WW, KK, QX, SHs, RRs, Nat.reduceAdd, Nat.reduceMul, Nat.reduceLeDiff, Nat.reduceEqDiff, List.length_cons, List.length_nil, decide_true, decide_false, Bool.true_and, Bool.and_true, Bool.false_and, Bool.and_false, false_and, and_false, Bool.false_eq_true, Bool.true_eq_false, reduceCtorEq, eq_self, if_true, if_false, true_and, and_true, not_true_eq_false, not_false_eq_true, if_pos, if_neg, z_ite_not, false_or, or_false, true_or, or_true, SWs, swk_0, swk_1, r_isBrick, r_isIn, h4]
          exact hr
      obtain rfl | rfl : c = 0 ∨ c = 1 := by omega
      · by_cases hl : lf = -1
        · refine Both_0 (nI 0) h ?_ ?_
          · refine callF_at (by omega) (by decide) (Nat.le_of_ble_eq_true rfl) (fun d _ => ?_)
            show Ev X d 149 0 [.ref 0, .int (nI b), .int (nI 0), .retAddr 0] [] ( mk I J) _
            have cl := cl d (by omega)
            have yw : callF X d 31 [.ref 8, .int (nI b), .int (-1)] (mk I J) = some (some (.int (nI 0)), mk I J) := by
              refine callF_at (by omega) (by decide) (Nat.le_of_ble_eq_true rfl) (fun d _ => ?_)
              show Ev X d 31 0 [.ref 8, .int (nI b), .int (-1), .retAddr 0, .retAddr 0] [] ( mk I J) _
              rcases Nat.eq_zero_or_pos n with z | z
              · subst z
                simp (disch := first | omega | assumption | exact rfl) only [U_31_0, U_31_1, U_31_2, U_31_3, U_31_4, U_31_5, U_31_6, XX, QQ, WW, KK, QX, SHs, RRs, Nat.reduceAdd, Nat.reduceMul, Nat.reduceLeDiff, Nat.reduceEqDiff, List.length_cons, List.length_nil, decide_true, decide_false, Bool.true_and, Bool.and_true, Bool.false_and, Bool.and_false, false_and, and_false, Bool.false_eq_true, Bool.true_eq_false, reduceCtorEq, eq_self, if_true, if_false, true_and, and_true, not_true_eq_false, not_false_eq_true, if_pos, if_neg, z_ite_not, false_or, or_false, true_or, or_true, SWs, swk_0, swk_1, h8]
              · simp (disch := first | omega | assumption | exact rfl) only [U_31_0, U_31_1, U_31_2, U_31_3, U_31_4, U_31_5, U_31_6, XX, QQ, WW, KK, QX, SHs, RRs, Nat.reduceAdd, Nat.reduceMul, Nat.reduceLeDiff, Nat.reduceEqDiff, List.length_cons, List.length_nil, decide_true, decide_false, Bool.true_and, Bool.and_true, Bool.false_and, Bool.and_false, false_and, and_false, Bool.false_eq_true, Bool.true_eq_false, reduceCtorEq, eq_self, if_true, if_false, true_and, and_true, not_true_eq_false, not_false_eq_true, if_pos, if_neg, z_ite_not, false_or, or_false, true_or, or_true, SWs, swk_0, swk_1, h8]
            rw [hl] at cl
            simp (disch := first | omega | assumption | exact rfl) only [U_149_0, U_149_1, U_149_3, U_149_4, U_149_5, U_149_6, XX, QQ, WW, KK, QX, SHs, RRs, Nat.reduceAdd, Nat.reduceMul, Nat.reduceLeDiff, Nat.reduceEqDiff, List.length_cons, List.length_nil, decide_true, decide_false, Bool.true_and, Bool.and_true, Bool.false_and, Bool.and_false, false_and, and_false, Bool.false_eq_true, Bool.true_eq_false, reduceCtorEq, eq_self, if_true, if_false, true_and, and_true, not_true_eq_false, not_false_eq_true, if_pos, if_neg, z_ite_not, false_or, or_false, true_or, or_true, SWs, swk_0, swk_1, s_isOf, cl, yw]
          · refine callF_at (by omega) (by decide) (Nat.le_of_ble_eq_true rfl) (fun d _ => ?_)
            show Ev X d 256 0 [.ref 177, .int (nI b), .int (nI 0), .retAddr 0, .retAddr 0, .retAddr 0] [] (mk I J) _
            refine rl d (by omega) _ ?_
            rw [hl]
            rcases Nat.eq_zero_or_pos n with z | z
            · subst z
              simp (disch := first | omega | assumption | exact rfl) only [U_256_6, U_256_8, U_256_9, U_256_10, U_256_15, XX, QQ, WW, KK, QX, SHs, RRs, Nat.reduceAdd, Nat.reduceMul, Nat.reduceLeDiff, Nat.reduceEqDiff, List.length_cons, List.length_nil, decide_true, decide_false, Bool.true_and, Bool.and_true, Bool.false_and, Bool.and_false, false_and, and_false, Bool.false_eq_true, Bool.true_eq_false, reduceCtorEq, eq_self, if_true, if_false, true_and, and_true, not_true_eq_false, not_false_eq_true, if_pos, if_neg, z_ite_not, false_or, or_false, true_or, or_true, SWs, swk_0, swk_1, h4]
            · simp (disch := first | omega | assumption | exact rfl) only [U_256_6, U_256_8, U_256_9, U_256_10, U_256_15, XX, QQ, WW, KK, QX, SHs, RRs, Nat.reduceAdd, Nat.reduceMul, Nat.reduceLeDiff, Nat.reduceEqDiff, List.length_cons, List.length_nil, decide_true, decide_false, Bool.true_and, Bool.and_true, Bool.false_and, Bool.and_false, false_and, and_false, Bool.false_eq_true, Bool.true_eq_false, reduceCtorEq, eq_self, if_true, if_false, true_and, and_true, not_true_eq_false, not_false_eq_true, if_pos, if_neg, z_ite_not, false_or, or_false, true_or, or_true, SWs, swk_0, swk_1, h4]
        · have hn : 0 < n := by
            rcases Nat.eq_zero_or_pos n with z | z
            · rw [hlf, if_neg (by omega)] at hl; exact absurd rfl hl
            · exact z
          refine Both_0 (nI (fb_ct (fun y => decide (I 13 (y * 24 + b) = lf)) n)) h ?_ ?_
          · refine callF_at (by omega) (by decide) (Nat.le_of_ble_eq_true rfl) (fun d _ => ?_)
            show Ev X d 149 0 [.ref 0, .int (nI b), .int (nI 0), .retAddr 0] [] ( mk I J) _
            have cl := cl d (by omega)
            have yw : callF X d 31 [.ref 8, .int (nI b), .int lf] (mk I J) = some (some (.int (nI (fb_ct (fun y => decide (I 13 (y * 24 + b) = lf)) n))), mk I J) := by
              refine callF_at (by omega) (by decide) (Nat.le_of_ble_eq_true rfl) (fun d _ => ?_)
              show Ev X d 31 0 [.ref 8, .int (nI b), .int lf, .retAddr 0, .retAddr 0] [] (mk I J) _
              simp (disch := first | omega | assumption | exact rfl) only [U_31_0, XX, QQ, WW, KK, QX, SHs, RRs, Nat.reduceAdd, Nat.reduceMul, Nat.reduceLeDiff, Nat.reduceEqDiff, List.length_cons, List.length_nil, decide_true, decide_false, Bool.true_and, Bool.and_true, Bool.false_and, Bool.and_false, false_and, and_false, Bool.false_eq_true, Bool.true_eq_false, reduceCtorEq, eq_self, if_true, if_false, true_and, and_true, not_true_eq_false, not_false_eq_true, if_pos, if_neg, z_ite_not, false_or, or_false, true_or, or_true, SWs, swk_0, swk_1]
              refine lp0 (n := n) (P := fun y => Ev X d 31 1 [.ref 8, .int (nI b), .int lf, .int (nI (fb_ct (fun y => decide (I 13 (y * 24 + b) = lf)) y)), .int (nI y)] [] (mk I J) (some (.int (nI (fb_ct (fun y => decide (I 13 (y * 24 + b) = lf)) n))), mk I J)) ?_ ?_
              · rw [U_31_1]
                simp (disch := first | omega | assumption | exact rfl) only [U_31_6, XX, QQ, WW, KK, QX, SHs, RRs, Nat.reduceAdd, Nat.reduceMul, Nat.reduceLeDiff, Nat.reduceEqDiff, List.length_cons, List.length_nil, decide_true, decide_false, Bool.true_and, Bool.and_true, Bool.false_and, Bool.and_false, false_and, and_false, Bool.false_eq_true, Bool.true_eq_false, reduceCtorEq, eq_self, if_true, if_false, true_and, and_true, not_true_eq_false, not_false_eq_true, if_pos, if_neg, z_ite_not, false_or, or_false, true_or, or_true, SWs, swk_0, swk_1, h8]
              · intro y hy ih
                rw [U_31_1]
                rw [fb_ct_succ] at ih
                have lo := c_leftOf (X := X) (d := d) (J := J) (y := y) (by omega) hb n60 (by omega) h8
                rw [if_pos hy] at lo
                by_cases z : I 13 (y * 24 + b) = lf
                · rw [if_pos (by simp [z])] at ih
                  simp (disch := first | omega | assumption | exact rfl) only [U_31_2, U_31_3, U_31_4, U_31_5, XX, QQ, WW, KK, QX, SHs, RRs, Nat.reduceAdd, Nat.reduceMul, Nat.reduceLeDiff, Nat.reduceEqDiff, List.length_cons, List.length_nil, decide_true, decide_false, Bool.true_and, Bool.and_true, Bool.false_and, Bool.and_false, false_and, and_false, Bool.false_eq_true, Bool.true_eq_false, reduceCtorEq, eq_self, if_true, if_false, true_and, and_true, not_true_eq_false, not_false_eq_true, if_pos, if_neg, z_ite_not, false_or, or_false, true_or, or_true, SWs, swk_0, swk_1, h8, hl, lo, z]
                  exact ih
                · rw [if_neg (by simp [z])] at ih
                  simp (disch := first | omega | assumption | exact rfl) only [U_31_2, U_31_3, U_31_4, U_31_5, XX, QQ, WW, KK, QX, SHs, RRs, Nat.reduceAdd, Nat.reduceMul, Nat.reduceLeDiff, Nat.reduceEqDiff, List.length_cons, List.length_nil, decide_true, decide_false, Bool.true_and, Bool.and_true, Bool.false_and, Bool.and_false, false_and, and_false, Bool.false_eq_true, Bool.true_eq_false, reduceCtorEq, eq_self, if_true, if_false, true_and, and_true, not_true_eq_false, not_false_eq_true, if_pos, if_neg, z_ite_not, false_or, or_false, true_or, or_true, SWs, swk_0, swk_1, h8, hl, lo, z]
                  exact ih
            simp (disch := first | omega | assumption | exact rfl) only [U_149_0, U_149_1, U_149_3, U_149_4, U_149_5, U_149_6, XX, QQ, WW, KK, QX, SHs, RRs, Nat.reduceAdd, Nat.reduceMul, Nat.reduceLeDiff, Nat.reduceEqDiff, List.length_cons, List.length_nil, decide_true, decide_false, Bool.true_and, Bool.and_true, Bool.false_and, Bool.and_false, false_and, and_false, Bool.false_eq_true, Bool.true_eq_false, reduceCtorEq, eq_self, if_true, if_false, true_and, and_true, not_true_eq_false, not_false_eq_true, if_pos, if_neg, z_ite_not, false_or, or_false, true_or, or_true, SWs, swk_0, swk_1, s_isOf, cl, yw]
          · refine callF_at (by omega) (by decide) (Nat.le_of_ble_eq_true rfl) (fun d _ => ?_)
            show Ev X d 256 0 [.ref 177, .int (nI b), .int (nI 0), .retAddr 0, .retAddr 0, .retAddr 0] [] (mk I J) _
            refine rl d (by omega) _ ?_
            simp (disch := first | omega | assumption | exact rfl) only [U_256_6, U_256_8, XX, QQ, WW, KK, QX, SHs, RRs, Nat.reduceAdd, Nat.reduceMul, Nat.reduceLeDiff, Nat.reduceEqDiff, List.length_cons, List.length_nil, decide_true, decide_false, Bool.true_and, Bool.and_true, Bool.false_and, Bool.and_false, false_and, and_false, Bool.false_eq_true, Bool.true_eq_false, reduceCtorEq, eq_self, if_true, if_false, true_and, and_true, not_true_eq_false, not_false_eq_true, if_pos, if_neg, z_ite_not, false_or, or_false, true_or, or_true, SWs, swk_0, swk_1]
            refine lp0 (n := n) (P := fun y => Ev X d 256 9 [.ref 177, .int (nI b), .int (nI 0), .int lf, .int (nI (fb_ct (fun y => decide (I 13 (y * 24 + b) = lf)) y)), .int (nI y)] [] (mk I J) (some (.int (nI (fb_ct (fun y => decide (I 13 (y * 24 + b) = lf)) n))), mk I J)) ?_ ?_
            · rw [U_256_9]
              simp (disch := first | omega | assumption | exact rfl) only [U_256_15, XX, QQ, WW, KK, QX, SHs, RRs, Nat.reduceAdd, Nat.reduceMul, Nat.reduceLeDiff, Nat.reduceEqDiff, List.length_cons, List.length_nil, decide_true, decide_false, Bool.true_and, Bool.and_true, Bool.false_and, Bool.and_false, false_and, and_false, Bool.false_eq_true, Bool.true_eq_false, reduceCtorEq, eq_self, if_true, if_false, true_and, and_true, not_true_eq_false, not_false_eq_true, if_pos, if_neg, z_ite_not, false_or, or_false, true_or, or_true, SWs, swk_0, swk_1, h4]
            · intro y hy ih
              rw [U_256_9]
              rw [fb_ct_succ] at ih
              have g4 := ((hh y hy).2.2.2 b hb).2.2.2
              by_cases z : I 13 (y * 24 + b) = lf
              · rw [if_pos (by simp [z])] at ih
                rw [z] at g4
                have g5 := g4.symm
                simp (disch := first | omega | assumption | exact rfl) only [U_256_10, U_256_11, U_256_12, U_256_13, U_256_14, XX, QQ, WW, KK, QX, SHs, RRs, Nat.reduceAdd, Nat.reduceMul, Nat.reduceLeDiff, Nat.reduceEqDiff, List.length_cons, List.length_nil, decide_true, decide_false, Bool.true_and, Bool.and_true, Bool.false_and, Bool.and_false, false_and, and_false, Bool.false_eq_true, Bool.true_eq_false, reduceCtorEq, eq_self, if_true, if_false, true_and, and_true, not_true_eq_false, not_false_eq_true, if_pos, if_neg, z_ite_not, false_or, or_false, true_or, or_true, SWs, swk_0, swk_1, h4, hl, g5]
                exact ih
              · rw [if_neg (by simp [z])] at ih
                rw [g4] at z
                simp (disch := first | omega | assumption | exact rfl) only [U_256_10, U_256_11, U_256_12, U_256_13, U_256_14, XX, QQ, WW, KK, QX, SHs, RRs, Nat.reduceAdd, Nat.reduceMul, Nat.reduceLeDiff, Nat.reduceEqDiff, List.length_cons, List.length_nil, decide_true, decide_false, Bool.true_and, Bool.and_true, Bool.false_and, Bool.and_false, false_and, and_false, Bool.false_eq_true, Bool.true_eq_false, reduceCtorEq, eq_self, if_true, if_false, true_and, and_true, not_true_eq_false, not_false_eq_true, if_pos, if_neg, z_ite_not, false_or, or_false, true_or, or_true, SWs, swk_0, swk_1, h4, hl, z]
                exact ih
      · refine Both_0 lf h ?_ ?_
        · refine callF_at (by omega) (by decide) (Nat.le_of_ble_eq_true rfl) (fun d _ => ?_)
          show Ev X d 149 0 [.ref 0, .int (nI b), .int (nI 1), .retAddr 0] [] ( mk I J) _
          have cl := cl d (by omega)
          simp (disch := first | omega | assumption | exact rfl) only [U_149_0, U_149_1, U_149_3, U_149_4, U_149_5, U_149_6, XX, QQ, WW, KK, QX, SHs, RRs, Nat.reduceAdd, Nat.reduceMul, Nat.reduceLeDiff, Nat.reduceEqDiff, List.length_cons, List.length_nil, decide_true, decide_false, Bool.true_and, Bool.and_true, Bool.false_and, Bool.and_false, false_and, and_false, Bool.false_eq_true, Bool.true_eq_false, reduceCtorEq, eq_self, if_true, if_false, true_and, and_true, not_true_eq_false, not_false_eq_true, if_pos, if_neg, z_ite_not, false_or, or_false, true_or, or_true, SWs, swk_0, swk_1, s_isOf, cl]
        · refine callF_at (by omega) (by decide) (Nat.le_of_ble_eq_true rfl) (fun d _ => ?_)
          show Ev X d 256 0 [.ref 177, .int (nI b), .int (nI 1), .retAddr 0, .retAddr 0, .retAddr 0] [] (mk I J) _
          refine rl d (by omega) _ ?_
          simp (disch := first | omega | assumption | exact rfl) only [U_256_6, U_256_7, XX, QQ, WW, KK, QX, SHs, RRs, Nat.reduceAdd, Nat.reduceMul, Nat.reduceLeDiff, Nat.reduceEqDiff, List.length_cons, List.length_nil, decide_true, decide_false, Bool.true_and, Bool.and_true, Bool.false_and, Bool.and_false, false_and, and_false, Bool.false_eq_true, Bool.true_eq_false, reduceCtorEq, eq_self, if_true, if_false, true_and, and_true, not_true_eq_false, not_false_eq_true, if_pos, if_neg, z_ite_not, false_or, or_false, true_or, or_true, SWs, swk_0, swk_1]
    · refine Both_0 (-2) h ?_ ?_
      · refine callF_at (by omega) (by decide) (Nat.le_of_ble_eq_true rfl) (fun d _ => ?_)
        show Ev X d 149 0 [.ref 0, .int (nI b), .int v, .retAddr 0] [] ( mk I J) _
        simp (disch := first | omega | assumption | exact rfl) only [U_149_0, U_149_1, U_149_2, XX, QQ, WW, KK, QX, SHs, RRs, Nat.reduceAdd, Nat.reduceMul, Nat.reduceLeDiff, Nat.reduceEqDiff, List.length_cons, List.length_nil, decide_true, decide_false, Bool.true_and, Bool.and_true, Bool.false_and, Bool.and_false, false_and, and_false, Bool.false_eq_true, Bool.true_eq_false, reduceCtorEq, eq_self, if_true, if_false, true_and, and_true, not_true_eq_false, not_false_eq_true, if_pos, if_neg, z_ite_not, false_or, or_false, true_or, or_true, SWs, swk_0, swk_1, s_isOf, o1]
      · refine callF_at (by omega) (by decide) (Nat.le_of_ble_eq_true rfl) (fun d _ => ?_)
        show Ev X d 256 0 [.ref 177, .int (nI b), .int v, .retAddr 0, .retAddr 0, .retAddr 0] [] ( mk I J) _
        simp (disch := first | omega | assumption | exact rfl) only [U_256_0, U_256_1, U_256_2, XX, QQ, WW, KK, QX, SHs, RRs, Nat.reduceAdd, Nat.reduceMul, Nat.reduceLeDiff, Nat.reduceEqDiff, List.length_cons, List.length_nil, decide_true, decide_false, Bool.true_and, Bool.and_true, Bool.false_and, Bool.and_false, false_and, and_false, Bool.false_eq_true, Bool.true_eq_false, reduceCtorEq, eq_self, if_true, if_false, true_and, and_true, not_true_eq_false, not_false_eq_true, if_pos, if_neg, z_ite_not, false_or, or_false, true_or, or_true, SWs, swk_0, swk_1, r_isBrick, r_isIn, o2]
  · refine Both_0 (-2) h ?_ ?_
    · refine callF_at (by omega) (by decide) (Nat.le_of_ble_eq_true rfl) (fun d _ => ?_)
      show Ev X d 149 0 [.ref 0, .int u, .int v, .retAddr 0] [] ( mk I J) _
      simp (disch := first | omega | assumption | exact rfl) only [U_149_0, U_149_1, U_149_2, XX, QQ, WW, KK, QX, SHs, RRs, Nat.reduceAdd, Nat.reduceMul, Nat.reduceLeDiff, Nat.reduceEqDiff, List.length_cons, List.length_nil, decide_true, decide_false, Bool.true_and, Bool.and_true, Bool.false_and, Bool.and_false, false_and, and_false, Bool.false_eq_true, Bool.true_eq_false, reduceCtorEq, eq_self, if_true, if_false, true_and, and_true, not_true_eq_false, not_false_eq_true, if_pos, if_neg, z_ite_not, false_or, or_false, true_or, or_true, SWs, swk_0, swk_1, s_isOf, o1]
    · refine callF_at (by omega) (by decide) (Nat.le_of_ble_eq_true rfl) (fun d _ => ?_)
      show Ev X d 256 0 [.ref 177, .int u, .int v, .retAddr 0, .retAddr 0, .retAddr 0] [] ( mk I J) _
      simp (disch := first | omega | assumption | exact rfl) only [U_256_0, U_256_1, U_256_2, XX, QQ, WW, KK, QX, SHs, RRs, Nat.reduceAdd, Nat.reduceMul, Nat.reduceLeDiff, Nat.reduceEqDiff, List.length_cons, List.length_nil, decide_true, decide_false, Bool.true_and, Bool.and_true, Bool.false_and, Bool.and_false, false_and, and_false, Bool.false_eq_true, Bool.true_eq_false, reduceCtorEq, eq_self, if_true, if_false, true_and, and_true, not_true_eq_false, not_false_eq_true, if_pos, if_neg, z_ite_not, false_or, or_false, true_or, or_true, SWs, swk_0, swk_1, r_isBrick, o2]
