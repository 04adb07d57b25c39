/-! ===== laying in a row: the reference ===== -/
/-- what way v and number y make of place i among n -/
def tgF (v : Int32) (y n : Nat) (sn : Nat → Nat) (i : Nat) : Nat := if v = nI 1 then (i + y) % n else if v = nI 2 then n - 1 - i else if v = nI 3 then sn i else i
theorem n_rem {a m : Nat} (ha : a < 2 ^ 31) (hm0 : 0 < m) (hm : m < 2 ^ 31) : nI a - nI a / nI m * nI m = nI (a % m) := by
  have h1 : a / m * m ≤ a := Nat.div_mul_le_self a m
  have h2 : a / m ≤ a := Nat.div_le_self a m
  have e : a - a / m * m = a % m := by
    have := Nat.div_add_mod a m
    rw [Nat.mul_comm] at this; omega
  rw [q_div ha hm hm0, q_mul, q_sub (by omega), e]
theorem r_simply {X : Nat × (Nat → Int32)} {d : Nat} {I : Nat → Nat → Int32} {J : Nat → Nat → Int64} {s F cnt mm y : Nat} {v u : Int32} {sn : Nat → Nat} (hd : 3 ≤ d) (hs : s < 6) (hR : RSh (I 178) s F) (hm : mm = if cnt < pop F then cnt else pop F) (hn24 : cnt ≤ 24) (hy : y ≤ 9999) (hu : v = nI 1 → u = nI y) (hsn : ∀ i, i < pop F → sn i < pop F) (h : ∀ f i, i < mm → callF X (d - 1) 218 [.ref 177, .int (nI s), .int (nI i)] (mk (va_up I 188 f) J) = some (some (.int (nI (sn i))), mk (va_up I 188 f) J)) :
    callF X d 219 [.ref 177, .int (nI s), .int (nI cnt), .int v, .int u] (mk I J) = some (none, mk (va_up I 188 (lyF (tgF v y (pop F) sn) (I 189) (fillI 24 (-1) (I 188)) mm)) J) := by
  obtain ⟨d, rfl⟩ : ∃ d', d = d' + 1 := ⟨d - 1, by omega⟩
  rw [Nat.add_sub_cancel] at h
  obtain ⟨h24, h1, _⟩ := id hR
  have hmm : mm ≤ cnt ∧ mm ≤ pop F ∧ (mm = cnt ∨ mm = pop F) := by rw [hm]; split <;> omega
  have em := r_empties (X := X) (d := d) (I := I) (J := J) (by omega)
  refine callF_at (by omega) (by decide) (Nat.le_of_ble_eq_true rfl) (fun d' hd' => ?_)
  obtain rfl : d = d' := by omega
  show Ev X d 219 0 [.ref 177, .int (nI s), .int (nI cnt), .int v, .int u, .retAddr 0, .retAddr 0, .retAddr 0] [] (mk I J) _
  obtain ⟨g, eg⟩ : ∃ g, g = fillI 24 (-1) (I 188) := ⟨_, rfl⟩
  rw [← eg] at em
  rw [← eg]
  obtain ⟨tg, etg⟩ : ∃ tg, tg = tgF v y (pop F) sn := ⟨_, rfl⟩
  rw [← etg]
  have lp : ∀ u7 : Value, Ev X d 219 1 [.ref 177, .int (nI s), .int (nI cnt), .int v, .int u, .int (nI (pop F)), .int (nI 0), u7] [] (mk (va_up I 188 g) J) (none, mk (va_up I 188 (lyF tg (I 189) g mm)) J) := by
    refine lpI (n := mm) (P := fun i => ∀ u7 : Value, Ev X d 219 1 [.ref 177, .int (nI s), .int (nI cnt), .int v, .int u, .int (nI (pop F)), .int (nI i), u7] [] (mk (va_up I 188 (lyF tg (I 189) g i)) J) (none, mk (va_up I 188 (lyF tg (I 189) g mm)) J)) ?_ ?_ (fun Q u7 => Q u7)
    · intro u7
      rw [U_219_1]
      by_cases z : mm = cnt
      · rw [z]
        simp (disch := first | omega | assumption | exact rfl) only [U_219_11, XX, QQ, WW, KK, QX, SHs, RRs, Nat.reduceAdd, Nat.reduceMul, Nat.reduceLeDiff, Nat.reduceEqDiff, List.length_cons, List.length_nil, decide_true, decide_false, Bool.true_and, Bool.and_true, Bool.false_and, Bool.and_false, false_and, and_false, Bool.false_eq_true, Bool.true_eq_false, reduceCtorEq, eq_self, if_true, if_false, true_and, and_true, not_true_eq_false, not_false_eq_true, if_pos, if_neg, z_ite_not, false_or, or_false, true_or, or_true, SWs, swk_0, swk_1]
      · have z2 : mm = pop F := by omega
        rw [z2]
        simp (disch := first | omega | assumption | exact rfl) only [U_219_2, U_219_11, XX, QQ, WW, KK, QX, SHs, RRs, Nat.reduceAdd, Nat.reduceMul, Nat.reduceLeDiff, Nat.reduceEqDiff, List.length_cons, List.length_nil, decide_true, decide_false, Bool.true_and, Bool.and_true, Bool.false_and, Bool.and_false, false_and, and_false, Bool.false_eq_true, Bool.true_eq_false, reduceCtorEq, eq_self, if_true, if_false, true_and, and_true, not_true_eq_false, not_false_eq_true, if_pos, if_neg, z_ite_not, false_or, or_false, true_or, or_true, SWs, swk_0, swk_1]
    · intro i hi ih u7
      have t := h (lyF tg (I 189) g i) i hi
      have ts := hsn i (by omega)
      have i24 : i < 24 := by omega
      have ic : i < cnt := by omega
      have il : i < pop F := by omega
      have p0 : ¬ nI (pop F) = 0 := fun z => by rw [q_eq0 (by omega)] at z; omega
      have er := n_rem (a := i + y) (m := pop F) (by omega) (by omega) (by omega)
      rw [lyF] at ih
      rw [U_219_1]
      by_cases v1 : v = nI 1
      · have e : tg i = (i + y) % pop F := by rw [etg]; unfold tgF; rw [if_pos v1]
        have ml : (i + y) % pop F < pop F := Nat.mod_lt _ (by omega)
        rw [e] at ih
        have hu := hu v1
        subst hu
        subst v1
        simp (disch := first | omega | assumption | exact rfl) only [U_219_2, U_219_3, U_219_4, U_219_10, XX, QQ, WW, KK, QX, SHs, RRs, Nat.reduceAdd, Nat.reduceMul, Nat.reduceLeDiff, Nat.reduceEqDiff, List.length_cons, List.length_nil, decide_true, decide_false, Bool.true_and, Bool.and_true, Bool.false_and, Bool.and_false, false_and, and_false, Bool.false_eq_true, Bool.true_eq_false, reduceCtorEq, eq_self, if_true, if_false, true_and, and_true, not_true_eq_false, not_false_eq_true, if_pos, if_neg, z_ite_not, false_or, or_false, true_or, or_true, SWs, swk_0, swk_1, p0, er]
        exact ih _
      · by_cases v2 : v = nI 2
        · have e : tg i = pop F - 1 - i := by rw [etg]; unfold tgF; rw [if_neg v1, if_pos v2]
          rw [e] at ih
          subst v2
          simp (disch := first | omega | assumption | exact rfl) only [U_219_2, U_219_3, U_219_5, U_219_6, U_219_10, XX, QQ, WW, KK, QX, SHs, RRs, Nat.reduceAdd, Nat.reduceMul, Nat.reduceLeDiff, Nat.reduceEqDiff, List.length_cons, List.length_nil, decide_true, decide_false, Bool.true_and, Bool.and_true, Bool.false_and, Bool.and_false, false_and, and_false, Bool.false_eq_true, Bool.true_eq_false, reduceCtorEq, eq_self, if_true, if_false, true_and, and_true, not_true_eq_false, not_false_eq_true, if_pos, if_neg, z_ite_not, false_or, or_false, true_or, or_true, SWs, swk_0, swk_1, v1]
          exact ih _
        · by_cases v3 : v = nI 3
          · have e : tg i = sn i := by rw [etg]; unfold tgF; rw [if_neg v1, if_neg v2, if_pos v3]
            rw [e] at ih
            subst v3
            simp (disch := first | omega | assumption | exact rfl) only [U_219_2, U_219_3, U_219_5, U_219_7, U_219_8, U_219_10, XX, QQ, WW, KK, QX, SHs, RRs, Nat.reduceAdd, Nat.reduceMul, Nat.reduceLeDiff, Nat.reduceEqDiff, List.length_cons, List.length_nil, decide_true, decide_false, Bool.true_and, Bool.and_true, Bool.false_and, Bool.and_false, false_and, and_false, Bool.false_eq_true, Bool.true_eq_false, reduceCtorEq, eq_self, if_true, if_false, true_and, and_true, not_true_eq_false, not_false_eq_true, if_pos, if_neg, z_ite_not, false_or, or_false, true_or, or_true, SWs, swk_0, swk_1, v1, v2, t]
            exact ih _
          · have e : tg i = i := by rw [etg]; unfold tgF; rw [if_neg v1, if_neg v2, if_neg v3]
            rw [e] at ih
            simp (disch := first | omega | assumption | exact rfl) only [U_219_2, U_219_3, U_219_5, U_219_7, U_219_9, U_219_10, XX, QQ, WW, KK, QX, SHs, RRs, Nat.reduceAdd, Nat.reduceMul, Nat.reduceLeDiff, Nat.reduceEqDiff, List.length_cons, List.length_nil, decide_true, decide_false, Bool.true_and, Bool.and_true, Bool.false_and, Bool.and_false, false_and, and_false, Bool.false_eq_true, Bool.true_eq_false, reduceCtorEq, eq_self, if_true, if_false, true_and, and_true, not_true_eq_false, not_false_eq_true, if_pos, if_neg, z_ite_not, false_or, or_false, true_or, or_true, SWs, swk_0, swk_1, v1, v2, v3]
            exact ih _
  simp (disch := first | omega | assumption | exact rfl) only [U_219_0, XX, QQ, WW, KK, QX, SHs, RRs, Nat.reduceAdd, Nat.reduceMul, Nat.reduceLeDiff, Nat.reduceEqDiff, List.length_cons, List.length_nil, decide_true, decide_false, Bool.true_and, Bool.and_true, Bool.false_and, Bool.and_false, false_and, and_false, Bool.false_eq_true, Bool.true_eq_false, reduceCtorEq, eq_self, if_true, if_false, true_and, and_true, not_true_eq_false, not_false_eq_true, if_pos, if_neg, z_ite_not, false_or, or_false, true_or, or_true, SWs, swk_0, swk_1, h1, em]
  exact lp _
