/-! ===== how many have met: the reference; wayOf, byOf ===== -/
theorem r_metN {X : Nat × (Nat → Int32)} {d : Nat} {I : Nat → Nat → Int32} {J : Nat → Nat → Int64} {M : Nat → Nat} (hd : 2 ≤ d) (hM : ∀ b, b < 24 → I 178 (820 + b) = nI (M b)) (hM2 : ∀ b, M b < 2 ^ 24) : callF X d 228 [.ref 177] (mk I J) = some (some (.int (nI (fb_sm (fun b => pop (M b)) 24 / 2))), mk I J) := by
  refine callF_at (by omega) (by decide) (Nat.le_of_ble_eq_true rfl) (fun d _ => ?_)
  show Ev X d 228 0 [.ref 177, .retAddr 0, .retAddr 0] [] ( mk I J) _
  simp (disch := first | omega | assumption | exact rfl) only [U_228_0, XX, QQ, WW, KK, QX, SHs, RRs, Nat.reduceAdd, Nat.reduceMul, Nat.reduceLeDiff, Nat.reduceEqDiff, List.length_cons, List.length_nil, decide_true, decide_false, Bool.true_and, Bool.and_true, Bool.false_and, Bool.and_false, false_and, and_false, Bool.false_eq_true, Bool.true_eq_false, reduceCtorEq, eq_self, if_true, if_false, true_and, and_true, not_true_eq_false, not_false_eq_true, if_pos, if_neg, z_ite_not, false_or, or_false, true_or, or_true, SWs, swk_0, swk_1]
  have hb : ∀ k, fb_sm (fun b => pop (M b)) k ≤ k * 64 := fun k => fb_sm_bound (fun _ _ => pop_le _)
  refine lp0 (n := 24) (P := fun k => Ev X d 228 1 [.ref 177, .int (nI (fb_sm (fun b => pop (M b)) k)), .int (nI k)] [] (mk I J) (some (.int (nI (fb_sm (fun b => pop (M b)) 24 / 2))), mk I J)) ?_ ?_
  · rw [U_228_1]
    have := hb 24
    have b3 : (nI 2 : Int32) ≠ 0 := by decide +kernel
    simp (disch := first | omega | assumption | exact rfl) only [U_228_3, XX, QQ, WW, KK, QX, SHs, RRs, Nat.reduceAdd, Nat.reduceMul, Nat.reduceLeDiff, Nat.reduceEqDiff, List.length_cons, List.length_nil, decide_true, decide_false, Bool.true_and, Bool.and_true, Bool.false_and, Bool.and_false, false_and, and_false, Bool.false_eq_true, Bool.true_eq_false, reduceCtorEq, eq_self, if_true, if_false, true_and, and_true, not_true_eq_false, not_false_eq_true, if_pos, if_neg, z_ite_not, false_or, or_false, true_or, or_true, SWs, swk_0, swk_1, q_div, b3]
  · intro k hk ih
    rw [U_228_1]
    rw [fb_sm_succ] at ih
    have e3 := hM k hk
    have m2 := hM2 k
    have h1 := hb k
    have h2 := pop_le (M k)
    simp (disch := first | omega | assumption | exact rfl) only [U_228_2, XX, QQ, WW, KK, QX, SHs, RRs, Nat.reduceAdd, Nat.reduceMul, Nat.reduceLeDiff, Nat.reduceEqDiff, List.length_cons, List.length_nil, decide_true, decide_false, Bool.true_and, Bool.and_true, Bool.false_and, Bool.and_false, false_and, and_false, Bool.false_eq_true, Bool.true_eq_false, reduceCtorEq, eq_self, if_true, if_false, true_and, and_true, not_true_eq_false, not_false_eq_true, if_pos, if_neg, z_ite_not, false_or, or_false, true_or, or_true, SWs, swk_0, swk_1, e3, r_count]
    exact ih
theorem c_wayOf {X : Nat × (Nat → Int32)} {d : Nat} {I : Nat → Nat → Int32} {J : Nat → Nat → Int64} {R L i : Nat} (hd : 2 ≤ d) (hR : RLA R) (h0 : I R 0 = nI L) (hL : L ≤ 16) (hi : i < L) : callF X d 71 [.ref R, .int (nI i)] (mk I J) = some (some (.int (I (R + 1) i)), mk I J) := by
  obtain ⟨r1, r2, r3, r4, r5, r6, r7, r8, r9, r10, r11, r12, r13, r14, r15⟩ := hR
  refine callF_at (by omega) (by decide) (Nat.le_of_ble_eq_true rfl) (fun d _ => ?_)
  show Ev X d 71 0 [.ref R, .int (nI i)] [] ( mk I J) _
  have i16 : i < 16 := by omega
  simp (disch := first | omega | assumption | exact rfl) only [U_71_0, U_71_1, U_71_3, XX, QQ, WW, KK, QX, SHs, RRs, Nat.reduceAdd, Nat.reduceMul, Nat.reduceLeDiff, Nat.reduceEqDiff, List.length_cons, List.length_nil, decide_true, decide_false, Bool.true_and, Bool.and_true, Bool.false_and, Bool.and_false, false_and, and_false, Bool.false_eq_true, Bool.true_eq_false, reduceCtorEq, eq_self, if_true, if_false, true_and, and_true, not_true_eq_false, not_false_eq_true, if_pos, if_neg, z_ite_not, false_or, or_false, true_or, or_true, SWs, swk_0, swk_1, r1, r8, r12, h0, s_isOf]
theorem c_byOf {X : Nat × (Nat → Int32)} {d : Nat} {I : Nat → Nat → Int32} {J : Nat → Nat → Int64} {R L i : Nat} (hd : 2 ≤ d) (hR : RLA R) (h0 : I R 0 = nI L) (hL : L ≤ 16) (hi : i < L) : callF X d 72 [.ref R, .int (nI i)] (mk I J) = some (some (.int (I (R + 2) i)), mk I J) := by
  obtain ⟨r1, r2, r3, r4, r5, r6, r7, r8, r9, r10, r11, r12, r13, r14, r15⟩ := hR
  refine callF_at (by omega) (by decide) (Nat.le_of_ble_eq_true rfl) (fun d _ => ?_)
  show Ev X d 72 0 [.ref R, .int (nI i)] [] ( mk I J) _
  have i16 : i < 16 := by omega
  simp (disch := first | omega | assumption | exact rfl) only [U_72_0, U_72_1, U_72_3, XX, QQ, WW, KK, QX, SHs, RRs, Nat.reduceAdd, Nat.reduceMul, Nat.reduceLeDiff, Nat.reduceEqDiff, List.length_cons, List.length_nil, decide_true, decide_false, Bool.true_and, Bool.and_true, Bool.false_and, Bool.and_false, false_and, and_false, Bool.false_eq_true, Bool.true_eq_false, reduceCtorEq, eq_self, if_true, if_false, true_and, and_true, not_true_eq_false, not_false_eq_true, if_pos, if_neg, z_ite_not, false_or, or_false, true_or, or_true, SWs, swk_0, swk_1, r1, r9, r13, h0, s_isOf]
