/-! ===== who stands left: the reference ===== -/
theorem lf_cond {p q : Nat} : (q % 8 = p % 8 - 1 ∧ 0 < p % 8 ∧ q / 8 = p / 8) ↔ nbp p 1 = some q := by
  have n1 : nbp p 1 = if 0 < p % 8 then some (p - 1) else none := rfl
  rw [n1]
  by_cases z : 0 < p % 8
  · rw [if_pos z]
    constructor
    · rintro ⟨a, _, c⟩; exact congrArg some (by omega)
    · intro h; have := Option.some.inj h; omega
  · rw [if_neg z]
    exact ⟨fun k => absurd k.2.1 z, fun k => by cases k⟩
noncomputable def lfv (F : Nat) (B : Nat → Int32) (b : Nat) : Int32 := if cd (∃ i, i < pop F ∧ B i = nI b) = true then lfB F B b else -1
theorem r_leftOf {X : Nat × (Nat → Int32)} {d : Nat} {I : Nat → Nat → Int32} {J : Nat → Nat → Int64} {F b : Nat} {B : Nat → Int32} (hd : 3 ≤ d) (hR : RWl (I 178) 0 F B) (hB : WB B (pop F)) (hb : b < 24) : callF X d 230 [.ref 177, .int (nI 0), .int (nI b)] (mk I J) = some (some (.int (lfv F B b)), mk I J) := by
  obtain ⟨h24, h1, h2, h3⟩ := id hR
  obtain ⟨d, rfl⟩ : ∃ d', d = d' + 1 := ⟨d - 1, by omega⟩
  have po := r_placeOf (X := X) (d := d) (J := J) (b := nI b) (by omega) (by decide) hR
  refine callF_at (by omega) (by decide) (Nat.le_of_ble_eq_true rfl) (fun d' hd' => ?_)
  obtain rfl : d = d' := by omega
  show Ev X d 230 0 [.ref 177, .int (nI 0), .int (nI b), .retAddr 0, .retAddr 0] [] (mk I J) _
  have h1 : I 178 (370 + 0) = nI (pop F) := h1
  have h1' : I 178 370 = nI (pop F) := h1
  rcases fstI_spec B (nI b) (pop F) 0 with ⟨q, q'⟩ | ⟨i, _, q1, q2, q3, _⟩
  · have e : lfv F B b = -1 := by
      unfold lfv
      rw [if_neg (by rw [cd_iff]; rintro ⟨i, x, y⟩; exact q' i (by omega) (by omega) y)]
    rw [e]
    rw [q] at po
    by_cases z : 0 < pop F
    · simp (disch := first | omega | assumption | exact rfl) only [U_230_0, U_230_1, U_230_2, U_230_7, XX, QQ, WW, KK, QX, SHs, RRs, Nat.reduceAdd, Nat.reduceMul, Nat.reduceLeDiff, Nat.reduceEqDiff, List.length_cons, List.length_nil, decide_true, decide_false, Bool.true_and, Bool.and_true, Bool.false_and, Bool.and_false, false_and, and_false, Bool.false_eq_true, Bool.true_eq_false, reduceCtorEq, eq_self, if_true, if_false, true_and, and_true, not_true_eq_false, not_false_eq_true, if_pos, if_neg, z_ite_not, false_or, or_false, true_or, or_true, SWs, swk_0, swk_1, po, h1, h1']
    · have z0 : pop F = 0 := by omega
      rw [z0] at h1 h1'
      simp (disch := first | omega | assumption | exact rfl) only [U_230_0, U_230_1, U_230_2, U_230_7, XX, QQ, WW, KK, QX, SHs, RRs, Nat.reduceAdd, Nat.reduceMul, Nat.reduceLeDiff, Nat.reduceEqDiff, List.length_cons, List.length_nil, decide_true, decide_false, Bool.true_and, Bool.and_true, Bool.false_and, Bool.and_false, false_and, and_false, Bool.false_eq_true, Bool.true_eq_false, reduceCtorEq, eq_self, if_true, if_false, true_and, and_true, not_true_eq_false, not_false_eq_true, if_pos, if_neg, z_ite_not, false_or, or_false, true_or, or_true, SWs, swk_0, swk_1, po, h1, h1']
  · have hi : i < pop F := by omega
    have e : lfv F B b = brI B (pop F) (tch F i 1) := by
      unfold lfv
      rw [if_pos (cd_iff.mpr ⟨i, hi, q2⟩)]
      unfold lfB
      rw [ixB_at hB h24 hi hb q2]
    rw [q3] at po
    obtain ⟨xi, yi⟩ := h2 i hi
    have i24 : i < 24 := by omega
    have xi : I 178 (380 + i) = nI (pl F i % 8) := xi
    have yi : I 178 (524 + i) = nI (pl F i / 8) := yi
    have lp : Ev X d 230 1 [.ref 177, .int (nI 0), .int (nI b), .int (nI i), .int (nI 0)] [] (mk I J) (some (.int (lfv F B b)), mk I J) := by
      refine lpI (n := pop F) (P := fun j => (∀ j', j' < j → nbp (pl F i) 1 ≠ some (pl F j')) → Ev X d 230 1 [.ref 177, .int (nI 0), .int (nI b), .int (nI i), .int (nI j)] [] (mk I J) (some (.int (lfv F B b)), mk I J)) ?_ ?_ (fun Q => Q (fun j h => absurd h (Nat.not_lt_zero j)))
      · intro hno
        have e2 : lfv F B b = -1 := by
          rw [e, tch_no hno hi]
          unfold brI; rw [if_neg (by rintro ⟨k, _⟩; exact absurd k (by decide +kernel))]
        rw [e2, U_230_1]
        simp (disch := first | omega | assumption | exact rfl) only [U_230_7, XX, QQ, WW, KK, QX, SHs, RRs, Nat.reduceAdd, Nat.reduceMul, Nat.reduceLeDiff, Nat.reduceEqDiff, List.length_cons, List.length_nil, decide_true, decide_false, Bool.true_and, Bool.and_true, Bool.false_and, Bool.and_false, false_and, and_false, Bool.false_eq_true, Bool.true_eq_false, reduceCtorEq, eq_self, if_true, if_false, true_and, and_true, not_true_eq_false, not_false_eq_true, if_pos, if_neg, z_ite_not, false_or, or_false, true_or, or_true, SWs, swk_0, swk_1, h1, h1']
      · intro j hj ih hno
        obtain ⟨xj, yj⟩ := h2 j hj
        have j24 : j < 24 := by omega
        have xj : I 178 (380 + j) = nI (pl F j % 8) := xj
        have yj : I 178 (524 + j) = nI (pl F j / 8) := yj
        have bj : I 178 (668 + j) = B j := h3 j j24
        have br := r_brick (X := X) (d := d) (I := I) (J := J) (a := 0) (by omega) (by decide) j24
        rw [show 668 + 24 * 0 + j = 668 + j from rfl, bj] at br
        have m1 : pl F j % 8 < 8 := Nat.mod_lt _ (by decide)
        have m2 : pl F i % 8 < 8 := Nat.mod_lt _ (by decide)
        have l1 := (pl_spec hi).1
        have l2 := (pl_spec hj).1
        have cond := lf_cond (p := pl F i) (q := pl F j)
        by_cases z : nbp (pl F i) 1 = some (pl F j)
        · have e2 : lfv F B b = B j := by
            rw [e, tch_of hj z]
            unfold brI
            rw [if_pos ⟨by rw [show (0 : Int32) = nI 0 from rfl, nI_leI (by omega) (by omega)]; omega, (nI_ltI (by omega) (by omega)).mpr hj⟩, nI_clamp (by omega)]
          obtain ⟨c1, c2, c3⟩ := cond.mpr z
          rw [c1] at xj
          rw [c3] at yj
          rw [e2, U_230_1]
          simp (disch := first | omega | assumption | exact rfl) only [U_230_2, U_230_3, U_230_4, U_230_5, XX, QQ, WW, KK, QX, SHs, RRs, Nat.reduceAdd, Nat.reduceMul, Nat.reduceLeDiff, Nat.reduceEqDiff, List.length_cons, List.length_nil, decide_true, decide_false, Bool.true_and, Bool.and_true, Bool.false_and, Bool.and_false, false_and, and_false, Bool.false_eq_true, Bool.true_eq_false, reduceCtorEq, eq_self, if_true, if_false, true_and, and_true, not_true_eq_false, not_false_eq_true, if_pos, if_neg, z_ite_not, false_or, or_false, true_or, or_true, SWs, swk_0, swk_1, h1, h1', xi, xj, yi, yj, br]
        · have ih := ih (fun j' h => by
            by_cases k : j' = j
            · rw [k]; exact z
            · exact hno j' (by omega))
          have nc : ¬ (pl F j % 8 = pl F i % 8 - 1 ∧ 0 < pl F i % 8 ∧ pl F j / 8 = pl F i / 8) := fun k => z (cond.mp k)
          obtain ⟨A, eA⟩ : ∃ A, A = pl F i % 8 := ⟨_, rfl⟩
          obtain ⟨C, eC⟩ : ∃ C, C = pl F j % 8 := ⟨_, rfl⟩
          obtain ⟨A', eA'⟩ : ∃ A', A' = pl F i / 8 := ⟨_, rfl⟩
          obtain ⟨C', eC'⟩ : ∃ C', C' = pl F j / 8 := ⟨_, rfl⟩
          rw [← eA] at xi nc m2
          rw [← eC] at xj nc m1
          rw [← eA'] at yi nc
          rw [← eC'] at yj nc
          have a8 : A' < 8 := by omega
          have c8 : C' < 8 := by omega
          rw [U_230_1]
          by_cases w : A = 0
          · have w2 : ¬ nI C = nI A - nI 1 := by
              rw [w]
              have : ∀ C, C < 8 → ¬ nI C = nI 0 - nI 1 := by decide +kernel
              exact this C m1
            simp (disch := first | omega | assumption | exact rfl) only [U_230_2, U_230_3, U_230_6, XX, QQ, WW, KK, QX, SHs, RRs, Nat.reduceAdd, Nat.reduceMul, Nat.reduceLeDiff, Nat.reduceEqDiff, List.length_cons, List.length_nil, decide_true, decide_false, Bool.true_and, Bool.and_true, Bool.false_and, Bool.and_false, false_and, and_false, Bool.false_eq_true, Bool.true_eq_false, reduceCtorEq, eq_self, if_true, if_false, true_and, and_true, not_true_eq_false, not_false_eq_true, if_pos, if_neg, z_ite_not, false_or, or_false, true_or, or_true, SWs, swk_0, swk_1, h1, h1', xi, xj, w2]
            exact ih
          · by_cases w3 : C = A - 1
            · have w4 : ¬ C' = A' := fun k => nc ⟨w3, by omega, k⟩
              rw [w3] at xj
              simp (disch := first | omega | assumption | exact rfl) only [U_230_2, U_230_3, U_230_4, U_230_6, XX, QQ, WW, KK, QX, SHs, RRs, Nat.reduceAdd, Nat.reduceMul, Nat.reduceLeDiff, Nat.reduceEqDiff, List.length_cons, List.length_nil, decide_true, decide_false, Bool.true_and, Bool.and_true, Bool.false_and, Bool.and_false, false_and, and_false, Bool.false_eq_true, Bool.true_eq_false, reduceCtorEq, eq_self, if_true, if_false, true_and, and_true, not_true_eq_false, not_false_eq_true, if_pos, if_neg, z_ite_not, false_or, or_false, true_or, or_true, SWs, swk_0, swk_1, h1, h1', xi, xj, yi, yj]
              exact ih
            · simp (disch := first | omega | assumption | exact rfl) only [U_230_2, U_230_3, U_230_6, XX, QQ, WW, KK, QX, SHs, RRs, Nat.reduceAdd, Nat.reduceMul, Nat.reduceLeDiff, Nat.reduceEqDiff, List.length_cons, List.length_nil, decide_true, decide_false, Bool.true_and, Bool.and_true, Bool.false_and, Bool.and_false, false_and, and_false, Bool.false_eq_true, Bool.true_eq_false, reduceCtorEq, eq_self, if_true, if_false, true_and, and_true, not_true_eq_false, not_false_eq_true, if_pos, if_neg, z_ite_not, false_or, or_false, true_or, or_true, SWs, swk_0, swk_1, h1, h1', xi, xj, w3]
              exact ih
    simp (disch := first | omega | assumption | exact rfl) only [U_230_0, XX, QQ, WW, KK, QX, SHs, RRs, Nat.reduceAdd, Nat.reduceMul, Nat.reduceLeDiff, Nat.reduceEqDiff, List.length_cons, List.length_nil, decide_true, decide_false, Bool.true_and, Bool.and_true, Bool.false_and, Bool.and_false, false_and, and_false, Bool.false_eq_true, Bool.true_eq_false, reduceCtorEq, eq_self, if_true, if_false, true_and, and_true, not_true_eq_false, not_false_eq_true, if_pos, if_neg, z_ite_not, false_or, or_false, true_or, or_true, SWs, swk_0, swk_1, po]
    exact lp
