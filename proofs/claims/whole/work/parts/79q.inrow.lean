/-! ===== laying in a row ===== -/
def lyF (tg : Nat → Nat) (w g : Nat → Int32) : Nat → (Nat → Int32)
  | 0 => g
  | m + 1 => va_up (lyF tg w g m) (tg m) (w m)
theorem c_layInRow {X : Nat × (Nat → Int32)} {d : Nat} {I : Nat → Nat → Int32} {J : Nat → Nat → Int64} {cnt cells mm : Nat} {tg : Nat → Nat} {w1 w2 : Int32} (hd : 2 ≤ d) (hm : mm = if cnt < cells then cnt else cells) (hc24 : cells ≤ 24) (hn24 : cnt ≤ 24) (h4 : I 140 4 = nI cnt) (h1 : I 145 1 = nI cells) (htg : ∀ i, i < mm → tg i < cells) (h : ∀ f i, i < mm → callF X (d - 1) 15 [.ref 140, .int (nI i), .int w1, .int w2] (mk (va_up I 146 f) J) = some (some (.int (nI (tg i))), mk (va_up I 146 f) J)) :
    callF X d 14 [.ref 140, .int w1, .int w2] (mk I J) = some (none, mk (va_up I 146 (lyF tg (I 152) (I 146) mm)) J) := by
  obtain ⟨d, rfl⟩ : ∃ d', d = d' + 1 := ⟨d - 1, by omega⟩
  rw [Nat.add_sub_cancel] at h
  have hmm : mm ≤ cnt ∧ mm ≤ cells ∧ (mm = cnt ∨ mm = cells) := by rw [hm]; split <;> omega
  refine callF_at (by omega) (by decide) (Nat.le_of_ble_eq_true rfl) (fun d' hd' => ?_)
  obtain rfl : d = d' := by omega
  show Ev X d 14 0 [.ref 140, .int w1, .int w2, .retAddr 0, .retAddr 0] [] (mk I J) _
  have lp : ∀ u4 : Value, Ev X d 14 1 [.ref 140, .int w1, .int w2, .int (nI 0), u4] [] (mk I J) (none, mk (va_up I 146 (lyF tg (I 152) (I 146) mm)) J) := by
    refine lpI (n := mm) (P := fun i => ∀ u4 : Value, Ev X d 14 1 [.ref 140, .int w1, .int w2, .int (nI i), u4] [] (mk (va_up I 146 (lyF tg (I 152) (I 146) i)) J) (none, mk (va_up I 146 (lyF tg (I 152) (I 146) mm)) J)) ?_ ?_ (fun Q u4 => by
      have := Q u4
      rw [lyF, vu_id] at this; exact this)
    · intro u4
      rw [U_14_1]
      by_cases z : mm = cnt
      · rw [z]
        simp (disch := first | omega | assumption | exact rfl) only [U_14_6, XX, QQ, WW, KK, QX, SHs, RRs, Nat.reduceAdd, Nat.reduceMul, Nat.reduceLeDiff, Nat.reduceEqDiff, List.length_cons, List.length_nil, decide_true, decide_false, Bool.true_and, Bool.and_true, Bool.false_and, Bool.and_false, false_and, and_false, Bool.false_eq_true, Bool.true_eq_false, reduceCtorEq, eq_self, if_true, if_false, true_and, and_true, not_true_eq_false, not_false_eq_true, if_pos, if_neg, z_ite_not, false_or, or_false, true_or, or_true, SWs, swk_0, swk_1, h4]
      · have z2 : mm = cells := by omega
        have z3 : cells < cnt := by omega
        rw [z2]
        simp (disch := first | omega | assumption | exact rfl) only [U_14_2, U_14_6, XX, QQ, WW, KK, QX, SHs, RRs, Nat.reduceAdd, Nat.reduceMul, Nat.reduceLeDiff, Nat.reduceEqDiff, List.length_cons, List.length_nil, decide_true, decide_false, Bool.true_and, Bool.and_true, Bool.false_and, Bool.and_false, false_and, and_false, Bool.false_eq_true, Bool.true_eq_false, reduceCtorEq, eq_self, if_true, if_false, true_and, and_true, not_true_eq_false, not_false_eq_true, if_pos, if_neg, z_ite_not, false_or, or_false, true_or, or_true, SWs, swk_0, swk_1, h4, h1]
    · intro i hi ih u4
      have t := h (lyF tg (I 152) (I 146) i) i hi
      have tl := htg i hi
      have t24 : tg i < 24 := by omega
      have i24 : i < 24 := by omega
      have ic : i < cnt := by omega
      have il : i < cells := by omega
      rw [lyF] at ih
      rw [U_14_1]
      simp (disch := first | omega | assumption | exact rfl) only [U_14_2, U_14_3, U_14_4, U_14_5, XX, QQ, WW, KK, QX, SHs, RRs, Nat.reduceAdd, Nat.reduceMul, Nat.reduceLeDiff, Nat.reduceEqDiff, List.length_cons, List.length_nil, decide_true, decide_false, Bool.true_and, Bool.and_true, Bool.false_and, Bool.and_false, false_and, and_false, Bool.false_eq_true, Bool.true_eq_false, reduceCtorEq, eq_self, if_true, if_false, true_and, and_true, not_true_eq_false, not_false_eq_true, if_pos, if_neg, z_ite_not, false_or, or_false, true_or, or_true, SWs, swk_0, swk_1, h4, h1, t, s_isOf]
      exact ih _
  simp (disch := first | omega | assumption | exact rfl) only [U_14_0, XX, QQ, WW, KK, QX, SHs, RRs, Nat.reduceAdd, Nat.reduceMul, Nat.reduceLeDiff, Nat.reduceEqDiff, List.length_cons, List.length_nil, decide_true, decide_false, Bool.true_and, Bool.and_true, Bool.false_and, Bool.and_false, false_and, and_false, Bool.false_eq_true, Bool.true_eq_false, reduceCtorEq, eq_self, if_true, if_false, true_and, and_true, not_true_eq_false, not_false_eq_true, if_pos, if_neg, z_ite_not, false_or, or_false, true_or, or_true, SWs, swk_0, swk_1]
  exact lp _
