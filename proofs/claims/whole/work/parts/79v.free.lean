/-! ===== pairs: a free cell of the class ===== -/
noncomputable def frO (F S us : Nat) (v : Int32) : Int32 := if cd (∃ j, j < pop F ∧ v = nI j ∧ us.testBit j = false ∧ S.testBit (pl F j) = true) = true then v else -1
theorem c_freeOf {X : Nat × (Nat → Int32)} {d : Nat} {I : Nat → Nat → Int32} {J : Nat → Nat → Int64} {W F S us : Nat} {v : Int32} (hd : 3 ≤ d) (hW : WG (mk I J) W F) (hS : S < 2 ^ 64) (hus : us < 2 ^ 24) (hv : v = -1 ∨ ∃ j, j < pop F ∧ v = nI j) : callF X d 19 [.ref W, .long (lN S), .int (nI us), .int v] (mk I J) = some (some (.int (frO F S us v)), mk I J) := by
  have h24 := hW.2.2.1
  have hSh : SH W = (9, 5) := hW.1.1
  have hc : I W 1 = nI (pop F) := hW.2.2.2.2.1
  have hr3 : RR W 3 = some (W + 2) := hW.1.2.2.1
  have hs2 : SH (W + 2) = (20, 24) := hW.1.2.2.2.2.2.1
  rcases hv with rfl | ⟨j, hj, rfl⟩
  · have e : frO F S us (-1) = -1 := by unfold frO; split <;> rfl
    have o : (decide (0 ≤ (-1 : Int32)) && decide ((-1 : Int32) < nI (pop F))) = false := by
      rw [show decide (0 ≤ (-1 : Int32)) = false by decide +kernel, Bool.false_and]
    rw [e]
    refine callF_at (by omega) (by decide) (Nat.le_of_ble_eq_true rfl) (fun d _ => ?_)
    show Ev X d 19 0 [.ref W, .long (lN S), .retAddr 0, .int (nI us), .int (-1)] [] ( mk I J) _
    simp (disch := first | omega | assumption | exact rfl) only [U_19_0, U_19_2, XX, QQ, WW, KK, QX, SHs, RRs, Nat.reduceAdd, Nat.reduceMul, Nat.reduceLeDiff, Nat.reduceEqDiff, List.length_cons, List.length_nil, decide_true, decide_false, Bool.true_and, Bool.and_true, Bool.false_and, Bool.and_false, false_and, and_false, Bool.false_eq_true, Bool.true_eq_false, reduceCtorEq, eq_self, if_true, if_false, true_and, and_true, not_true_eq_false, not_false_eq_true, if_pos, if_neg, z_ite_not, false_or, or_false, true_or, or_true, SWs, swk_0, swk_1, hSh, hc, s_isOf, o]
  · have j24 : j < 24 := by omega
    have p6 : I (W + 2) j = nI (pl F j) := hW.2.2.2.2.2.1 j hj
    have p1 := (pl_spec hj).1
    have ex : (∃ j', j' < pop F ∧ nI j = nI j' ∧ us.testBit j' = false ∧ S.testBit (pl F j') = true) ↔ us.testBit j = false ∧ S.testBit (pl F j) = true := by
      constructor
      · rintro ⟨j', a, b, c⟩
        have : j = j' := nI_inj (by omega) (by omega) b
        subst this; exact c
      · intro c; exact ⟨j, hj, rfl, c⟩
    refine callF_at (by omega) (by decide) (Nat.le_of_ble_eq_true rfl) (fun d _ => ?_)
    show Ev X d 19 0 [.ref W, .long (lN S), .retAddr 0, .int (nI us), .int (nI j)] [] ( mk I J) _
    have sh := s_has (X := X) (d := d) (M := mk I J) (F := S) (q := pl F j) (by omega) hS (by omega)
    cases h1 : us.testBit j with
    | true =>
      have e : frO F S us (nI j) = -1 := by unfold frO; rw [if_neg (by rw [cd_iff, ex, h1]; rintro ⟨k, _⟩; cases k)]
      rw [e]
      simp (disch := first | omega | assumption | exact rfl) only [U_19_0, U_19_1, U_19_2, XX, QQ, WW, KK, QX, SHs, RRs, Nat.reduceAdd, Nat.reduceMul, Nat.reduceLeDiff, Nat.reduceEqDiff, List.length_cons, List.length_nil, decide_true, decide_false, Bool.true_and, Bool.and_true, Bool.false_and, Bool.and_false, false_and, and_false, Bool.false_eq_true, Bool.true_eq_false, reduceCtorEq, eq_self, if_true, if_false, true_and, and_true, not_true_eq_false, not_false_eq_true, if_pos, if_neg, z_ite_not, false_or, or_false, true_or, or_true, SWs, swk_0, swk_1, hSh, hc, s_isOf, h1]
    | false =>
      cases h2 : S.testBit (pl F j) with
      | true =>
        have e : frO F S us (nI j) = nI j := by unfold frO; rw [if_pos (by rw [cd_iff, ex]; exact ⟨h1, h2⟩)]
        rw [e]
        rw [h2] at sh
        simp (disch := first | omega | assumption | exact rfl) only [U_19_0, U_19_1, U_19_3, U_19_4, U_19_5, U_19_6, XX, QQ, WW, KK, QX, SHs, RRs, Nat.reduceAdd, Nat.reduceMul, Nat.reduceLeDiff, Nat.reduceEqDiff, List.length_cons, List.length_nil, decide_true, decide_false, Bool.true_and, Bool.and_true, Bool.false_and, Bool.and_false, false_and, and_false, Bool.false_eq_true, Bool.true_eq_false, reduceCtorEq, eq_self, if_true, if_false, true_and, and_true, not_true_eq_false, not_false_eq_true, if_pos, if_neg, z_ite_not, false_or, or_false, true_or, or_true, SWs, swk_0, swk_1, hSh, hc, hr3, hs2, p6, s_isOf, h1, sh]
      | false =>
        have e : frO F S us (nI j) = -1 := by unfold frO; rw [if_neg (by rw [cd_iff, ex, h2]; rintro ⟨_, k⟩; cases k)]
        rw [e]
        rw [h2] at sh
        simp (disch := first | omega | assumption | exact rfl) only [U_19_0, U_19_1, U_19_3, U_19_4, U_19_5, U_19_6, XX, QQ, WW, KK, QX, SHs, RRs, Nat.reduceAdd, Nat.reduceMul, Nat.reduceLeDiff, Nat.reduceEqDiff, List.length_cons, List.length_nil, decide_true, decide_false, Bool.true_and, Bool.and_true, Bool.false_and, Bool.and_false, false_and, and_false, Bool.false_eq_true, Bool.true_eq_false, reduceCtorEq, eq_self, if_true, if_false, true_and, and_true, not_true_eq_false, not_false_eq_true, if_pos, if_neg, z_ite_not, false_or, or_false, true_or, or_true, SWs, swk_0, swk_1, hSh, hc, hr3, hs2, p6, s_isOf, h1, sh]
