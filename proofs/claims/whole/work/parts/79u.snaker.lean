/-! ===== snakeCell: the reference ===== -/
theorem row_iff {F y j : Nat} (hj : j < pop F) : pl F j / 8 = y ↔ num F (8 * y) ≤ j ∧ j < num F (8 * y + 8) := by
  obtain ⟨p1, p2, p3⟩ := pl_spec hj
  unfold num at *
  constructor
  · rintro rfl
    have := num_row hj
    unfold num at this; exact this
  · rintro ⟨a, b⟩
    rcases Nat.lt_trichotomy (pl F j / 8) y with z | z | z
    · have m := fb_ct_mono F.testBit (m := pl F j + 1) (n := 8 * y) (by omega)
      rw [fb_ct_succ, if_pos p2] at m
      omega
    · exact z
    · have m := fb_ct_mono F.testBit (m := 8 * y + 8) (n := pl F j) (by omega)
      omega
theorem num_le_pop {F q : Nat} (hq : q ≤ 64) : num F q ≤ pop F := fb_ct_mono _ hq
theorem r_snake {X : Nat × (Nat → Int32)} {d : Nat} {I : Nat → Nat → Int32} {J : Nat → Nat → Int64} {F s i : Nat} (hd : 1 ≤ d) (hs : s < 6) (hR : RSh (I 178) s F) (hi : i < pop F) : callF X d 218 [.ref 177, .int (nI s), .int (nI i)] (mk I J) = some (some (.int (nI (snF F i))), mk I J) := by
  obtain ⟨h24, h1, h2⟩ := hR
  have p1 := (pl_spec hi).1
  have nr := num_row hi
  obtain ⟨y, ey⟩ : ∃ y, y = pl F i / 8 := ⟨_, rfl⟩
  have y8 : y < 8 := by omega
  have yv : ∀ j, j < pop F → I 178 (224 + 24 * s + j) = nI (pl F j / 8) := fun j hj => (h2 j hj).2
  have yi := yv i hi
  unfold snF
  rw [← ey] at nr yi
  rw [← ey]
  have l2 : num F (8 * y + 8) ≤ pop F := num_le_pop (by omega)
  have rowi : ∀ j, j < pop F → (pl F j / 8 = y ↔ num F (8 * y) ≤ j ∧ j < num F (8 * y + 8)) := fun j hj => row_iff hj
  obtain ⟨A, eA⟩ : ∃ A, A = num F (8 * y) := ⟨_, rfl⟩
  obtain ⟨C, eC⟩ : ∃ C, C = num F (8 * y + 8) := ⟨_, rfl⟩
  rw [← eA, ← eC] at nr rowi
  rw [← eC] at l2
  rw [← eA, ← eC]
  have er := n_rem (a := y) (m := 2) (by omega) (by omega) (by omega)
  have b3 : ¬ (nI 2 : Int32) = 0 := by decide +kernel
  have m2 : y % 2 < 2 := Nat.mod_lt _ (by decide)
  have i24 : i < 24 := by omega
  refine callF_at (by omega) (by decide) (Nat.le_of_ble_eq_true rfl) (fun d _ => ?_)
  show Ev X d 218 0 [.ref 177, .int (nI s), .int (nI i), .retAddr 0, .retAddr 0, .retAddr 0, .retAddr 0] [] ( mk I J) _
  by_cases z : y % 2 = 0
  · rw [z] at er
    rw [if_pos z]
    simp (disch := first | omega | assumption | exact rfl) only [U_218_0, U_218_1, XX, QQ, WW, KK, QX, SHs, RRs, Nat.reduceAdd, Nat.reduceMul, Nat.reduceLeDiff, Nat.reduceEqDiff, List.length_cons, List.length_nil, decide_true, decide_false, Bool.true_and, Bool.and_true, Bool.false_and, Bool.and_false, false_and, and_false, Bool.false_eq_true, Bool.true_eq_false, reduceCtorEq, eq_self, if_true, if_false, true_and, and_true, not_true_eq_false, not_false_eq_true, if_pos, if_neg, z_ite_not, false_or, or_false, true_or, or_true, SWs, swk_0, swk_1, h1, yi, er, b3]
  · rw [if_neg z]
    simp (disch := first | omega | assumption | exact rfl) only [U_218_0, U_218_2, XX, QQ, WW, KK, QX, SHs, RRs, Nat.reduceAdd, Nat.reduceMul, Nat.reduceLeDiff, Nat.reduceEqDiff, List.length_cons, List.length_nil, decide_true, decide_false, Bool.true_and, Bool.and_true, Bool.false_and, Bool.and_false, false_and, and_false, Bool.false_eq_true, Bool.true_eq_false, reduceCtorEq, eq_self, if_true, if_false, true_and, and_true, not_true_eq_false, not_false_eq_true, if_pos, if_neg, z_ite_not, false_or, or_false, true_or, or_true, SWs, swk_0, swk_1, h1, yi, er, b3, z]
    -- down to A
    have up : ∀ m, i ≤ m → m < C → Ev X d 218 7 [.ref 177, .int (nI s), .int (nI i), .int (nI (pop F)), .int (nI y), .int (nI A), .int (nI m)] [] (mk I J) (some (.int (nI (2 * A + (C - A) - 1 - i))), mk I J) := fun m him hmC => by
      refine lpd (n := C - 1) (P := fun m => i ≤ m → Ev X d 218 7 [.ref 177, .int (nI s), .int (nI i), .int (nI (pop F)), .int (nI y), .int (nI A), .int (nI m)] [] (mk I J) (some (.int (nI (2 * A + (C - A) - 1 - i))), mk I J)) ?_ ?_ m (by omega) him
      · intro _
        rw [U_218_7]
        have eR : A + (C - 1) - i = 2 * A + (C - A) - 1 - i := by omega
        by_cases w : C = pop F
        · have w1 : C - 1 + 1 = pop F := by omega
          simp (disch := first | omega | assumption | exact rfl) only [U_218_10, XX, QQ, WW, KK, QX, SHs, RRs, Nat.reduceAdd, Nat.reduceMul, Nat.reduceLeDiff, Nat.reduceEqDiff, List.length_cons, List.length_nil, decide_true, decide_false, Bool.true_and, Bool.and_true, Bool.false_and, Bool.and_false, false_and, and_false, Bool.false_eq_true, Bool.true_eq_false, reduceCtorEq, eq_self, if_true, if_false, true_and, and_true, not_true_eq_false, not_false_eq_true, if_pos, if_neg, z_ite_not, false_or, or_false, true_or, or_true, SWs, swk_0, swk_1, w1, eR]
        · have w1 : C - 1 + 1 = C := by omega
          have yC := yv C (by omega)
          have nC : ¬ pl F C / 8 = y := fun k => by have := (rowi C (by omega)).mp k; omega
          have c8 : pl F C / 8 < 8 := by have := (pl_spec (F := F) (i := C) (by omega)).1; omega
          have w2 : 224 + 24 * s + (C - 1) + 1 = 224 + 24 * s + C := by omega
          have Clt : C < pop F := by omega
          simp (disch := first | omega | assumption | exact rfl) only [U_218_8, U_218_10, XX, QQ, WW, KK, QX, SHs, RRs, Nat.reduceAdd, Nat.reduceMul, Nat.reduceLeDiff, Nat.reduceEqDiff, List.length_cons, List.length_nil, decide_true, decide_false, Bool.true_and, Bool.and_true, Bool.false_and, Bool.and_false, false_and, and_false, Bool.false_eq_true, Bool.true_eq_false, reduceCtorEq, eq_self, if_true, if_false, true_and, and_true, not_true_eq_false, not_false_eq_true, if_pos, if_neg, z_ite_not, false_or, or_false, true_or, or_true, SWs, swk_0, swk_1, w1, w2, yC, nC, eR]
      · intro m hm ih him
        have ih := ih (by omega)
        have yC := yv (m + 1) (by omega)
        rw [(rowi (m + 1) (by omega)).mpr ⟨by omega, by omega⟩, ← Nat.add_assoc] at yC
        have m1 : m + 1 < pop F := by omega
        rw [U_218_7]
        simp (disch := first | omega | assumption | exact rfl) only [U_218_8, U_218_9, XX, QQ, WW, KK, QX, SHs, RRs, Nat.reduceAdd, Nat.reduceMul, Nat.reduceLeDiff, Nat.reduceEqDiff, List.length_cons, List.length_nil, decide_true, decide_false, Bool.true_and, Bool.and_true, Bool.false_and, Bool.and_false, false_and, and_false, Bool.false_eq_true, Bool.true_eq_false, reduceCtorEq, eq_self, if_true, if_false, true_and, and_true, not_true_eq_false, not_false_eq_true, if_pos, if_neg, z_ite_not, false_or, or_false, true_or, or_true, SWs, swk_0, swk_1, yC]
        exact ih
    have dn : ∀ t, A + t ≤ i → ∀ u6 : Value, Ev X d 218 3 [.ref 177, .int (nI s), .int (nI i), .int (nI (pop F)), .int (nI y), .int (nI (A + t)), u6] [] (mk I J) (some (.int (nI (2 * A + (C - A) - 1 - i))), mk I J) := by
      intro t
      induction t with
      | zero =>
        intro _ u6
        have u := up i (Nat.le_refl _) (by omega)
        rw [Nat.add_zero, U_218_3]
        by_cases w : A = 0
        · subst w
          simp (disch := first | omega | assumption | exact rfl) only [U_218_6, XX, QQ, WW, KK, QX, SHs, RRs, Nat.reduceAdd, Nat.reduceMul, Nat.reduceLeDiff, Nat.reduceEqDiff, List.length_cons, List.length_nil, decide_true, decide_false, Bool.true_and, Bool.and_true, Bool.false_and, Bool.and_false, false_and, and_false, Bool.false_eq_true, Bool.true_eq_false, reduceCtorEq, eq_self, if_true, if_false, true_and, and_true, not_true_eq_false, not_false_eq_true, if_pos, if_neg, z_ite_not, false_or, or_false, true_or, or_true, SWs, swk_0, swk_1]
          exact u
        · have yA := yv (A - 1) (by omega)
          have nA : ¬ pl F (A - 1) / 8 = y := fun k => by have := (rowi (A - 1) (by omega)).mp k; omega
          have c8 : pl F (A - 1) / 8 < 8 := by have := (pl_spec (F := F) (i := A - 1) (by omega)).1; omega
          have w2 : 224 + 24 * s + A - 1 = 224 + 24 * s + (A - 1) := by omega
          have A0 : 0 < A := by omega
          simp (disch := first | omega | assumption | exact rfl) only [U_218_4, U_218_6, XX, QQ, WW, KK, QX, SHs, RRs, Nat.reduceAdd, Nat.reduceMul, Nat.reduceLeDiff, Nat.reduceEqDiff, List.length_cons, List.length_nil, decide_true, decide_false, Bool.true_and, Bool.and_true, Bool.false_and, Bool.and_false, false_and, and_false, Bool.false_eq_true, Bool.true_eq_false, reduceCtorEq, eq_self, if_true, if_false, true_and, and_true, not_true_eq_false, not_false_eq_true, if_pos, if_neg, z_ite_not, false_or, or_false, true_or, or_true, SWs, swk_0, swk_1, w2, yA, nA]
          exact u
      | succ t ih =>
        intro ht u6
        have ih := ih (by omega) u6
        have yA := yv (A + t) (by omega)
        rw [(rowi (A + t) (by omega)).mpr ⟨by omega, by omega⟩] at yA
        have w2 : 224 + 24 * s + (A + (t + 1)) - 1 = 224 + 24 * s + (A + t) := by omega
        have w3 : A + (t + 1) - 1 = A + t := by omega
        rw [U_218_3]
        simp (disch := first | omega | assumption | exact rfl) only [U_218_4, U_218_5, XX, QQ, WW, KK, QX, SHs, RRs, Nat.reduceAdd, Nat.reduceMul, Nat.reduceLeDiff, Nat.reduceEqDiff, List.length_cons, List.length_nil, decide_true, decide_false, Bool.true_and, Bool.and_true, Bool.false_and, Bool.and_false, false_and, and_false, Bool.false_eq_true, Bool.true_eq_false, reduceCtorEq, eq_self, if_true, if_false, true_and, and_true, not_true_eq_false, not_false_eq_true, if_pos, if_neg, z_ite_not, false_or, or_false, true_or, or_true, SWs, swk_0, swk_1, w2, w3, yA]
        exact ih
    have := dn (i - A) (by omega)
    rw [show A + (i - A) = i by omega] at this
    exact this _
