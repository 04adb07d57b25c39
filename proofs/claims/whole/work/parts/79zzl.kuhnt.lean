/-! ===== the reference's most couples ===== -/
theorem r_mostCouples {X : Nat × (Nat → Int32)} {d : Nat} {I : Nat → Nat → Int32} {J : Nat → Nat → Int64} {s F : Nat} (hd : 32 ≤ d) (hs : s < 6) (hF : F < 2 ^ 64) (hS : RSh (I 178) s F) :
    ∃ I', callF X d 243 [.ref 177, .int (nI s)] (mk I J) = some (some (.int (nI (mo 24 F))), mk I' J) ∧ (∀ a, a ≠ 191 → a ≠ 195 → I' a = I a) := by
  have h24 := hS.1
  have c70 : I 178 (70 + s) = nI (pop F) := hS.2.1
  obtain ⟨d, rfl⟩ : ∃ d', d = d' + 1 := ⟨d - 1, by omega⟩
  have walk : ∀ (I0 : Nat → Nat → Int32) (u4 : Value), (∀ a, a ≠ 191 → a ≠ 195 → I0 a = I a) → (∀ j, j < pop F → I0 191 j = oM 0) → ∃ I', Ev X d 243 4 [.ref 177, .int (nI s), .int (nI 0), .int (nI 0), u4] [] (mk I0 J) (some (.int (nI (mo 24 F))), mk I' J) ∧ (∀ a, a ≠ 191 → a ≠ 195 → I' a = I a) := fun I0 u4 f0 k0 => by
    refine lpI (n := pop F) (P := fun i => ∀ (I1 : Nat → Nat → Int32) (cm : Nat → Nat) (S : Nat → Prop) (u4 : Value), (∀ a, a ≠ 191 → a ≠ 195 → I1 a = I a) → (∀ j, j < pop F → I1 191 j = oM (cm j)) → KI F i cm S → ∃ I', Ev X d 243 4 [.ref 177, .int (nI s), .int (nI (ctC F cm)), .int (nI i), u4] [] (mk I1 J) (some (.int (nI (mo 24 F))), mk I' J) ∧ (∀ a, a ≠ 191 → a ≠ 195 → I' a = I a)) ?_ ?_ (fun Q => by
      have q := Q I0 (fun _ => 0) (fun _ => False) u4 f0 k0 KI_0
      have e : ctC F (fun _ => 0) = 0 := fb_ct_zero.mpr (fun _ _ => decide_eq_false (fun z => z rfl))
      rw [e] at q
      exact q)
    · intro I1 cm S u4 f1 k1 hK
      have e : ctC F cm = mo 24 F := Nat.le_antisymm (k_mat hF h24 hK) (k_cov hF h24 hK)
      refine ⟨I1, ?_, f1⟩
      have c : I1 178 (70 + s) = nI (pop F) := by rw [f1 178 (by decide) (by decide)]; exact c70
      rw [e, U_243_4]
      simp (disch := first | omega | assumption | exact rfl) only [U_243_15, XX, QQ, WW, KK, QX, SHs, RRs, Nat.reduceAdd, Nat.reduceMul, Nat.reduceLeDiff, Nat.reduceEqDiff, List.length_cons, List.length_nil, decide_true, decide_false, Bool.true_and, Bool.and_true, Bool.false_and, Bool.and_false, false_and, and_false, Bool.false_eq_true, Bool.true_eq_false, reduceCtorEq, eq_self, if_true, if_false, true_and, and_true, not_true_eq_false, not_false_eq_true, if_pos, if_neg, z_ite_not, false_or, or_false, true_or, or_true, SWs, swk_0, swk_1, c]
    · intro i hi ih I1 cm S u4 f1 k1 hK
      have i24 : i < 24 := by omega
      have c : I1 178 (70 + s) = nI (pop F) := by rw [f1 178 (by decide) (by decide)]; exact c70
      have hS1 : RSh (I1 178) s F := by rw [f1 178 (by decide) (by decide)]; exact hS
      obtain ⟨x1, x2⟩ := hS1.2.2 i hi
      have p64 := (pl_spec hi).1
      have cl : ctC F cm ≤ pop F := fb_ct_le _ _
      obtain ⟨m, em⟩ : ∃ m, m = pl F i % 8 + pl F i / 8 := ⟨_, rfl⟩
      have er := n_rem (a := m) (m := 2) (by omega) (by omega) (by omega)
      rw [em] at er
      have b3 : ¬ (nI 2 : Int32) = 0 := by decide +kernel
      by_cases ev : evC F i
      · have m0 : (pl F i % 8 + pl F i / 8) % 2 = 0 := ev
        rw [m0] at er
        -- none is seen
        have cls : ∃ I2, (∀ a, a ≠ 195 → I2 a = I1 a) ∧ (∀ j, j < pop F → I2 195 j = bI false) ∧ ∀ r, Ev X d 243 10 [.ref 177, .int (nI s), .int (nI (ctC F cm)), .int (nI i), .int (nI 24)] [] (mk I2 J) r → Ev X d 243 7 [.ref 177, .int (nI s), .int (nI (ctC F cm)), .int (nI i), u4] [] (mk I1 J) r := by
          refine ⟨va_up I1 195 (fillI 24 (nI 0) (I1 195)), fun a ha => vu_ne ha, fun j hj => by rw [vu_eq]; unfold fillI; rw [if_pos (by omega)]; rfl, fun r H => ?_⟩
          have lp : Ev X d 243 8 [.ref 177, .int (nI s), .int (nI (ctC F cm)), .int (nI i), .int (nI 0)] [] (mk I1 J) r := by
            refine lpI (n := 24) (P := fun j => Ev X d 243 8 [.ref 177, .int (nI s), .int (nI (ctC F cm)), .int (nI i), .int (nI j)] [] (mk (va_up I1 195 (fillI j (nI 0) (I1 195))) J) r) ?_ ?_ (fun Q => by rw [fillI_0, vu_id] at Q; exact Q)
            · rw [U_243_8]
              simp (disch := first | omega | assumption | exact rfl) only [U_243_8, XX, QQ, WW, KK, QX, SHs, RRs, Nat.reduceAdd, Nat.reduceMul, Nat.reduceLeDiff, Nat.reduceEqDiff, List.length_cons, List.length_nil, decide_true, decide_false, Bool.true_and, Bool.and_true, Bool.false_and, Bool.and_false, false_and, and_false, Bool.false_eq_true, Bool.true_eq_false, reduceCtorEq, eq_self, if_true, if_false, true_and, and_true, not_true_eq_false, not_false_eq_true, if_pos, if_neg, z_ite_not, false_or, or_false, true_or, or_true, SWs, swk_0, swk_1]
              exact H
            · intro j hj IH
              rw [← fillI_s] at IH
              rw [U_243_8]
              simp (disch := first | omega | assumption | exact rfl) only [U_243_9, XX, QQ, WW, KK, QX, SHs, RRs, Nat.reduceAdd, Nat.reduceMul, Nat.reduceLeDiff, Nat.reduceEqDiff, List.length_cons, List.length_nil, decide_true, decide_false, Bool.true_and, Bool.and_true, Bool.false_and, Bool.and_false, false_and, and_false, Bool.false_eq_true, Bool.true_eq_false, reduceCtorEq, eq_self, if_true, if_false, true_and, and_true, not_true_eq_false, not_false_eq_true, if_pos, if_neg, z_ite_not, false_or, or_false, true_or, or_true, SWs, swk_0, swk_1]
              exact IH
          simp (disch := first | omega | assumption | exact rfl) only [U_243_7, XX, QQ, WW, KK, QX, SHs, RRs, Nat.reduceAdd, Nat.reduceMul, Nat.reduceLeDiff, Nat.reduceEqDiff, List.length_cons, List.length_nil, decide_true, decide_false, Bool.true_and, Bool.and_true, Bool.false_and, Bool.and_false, false_and, and_false, Bool.false_eq_true, Bool.true_eq_false, reduceCtorEq, eq_self, if_true, if_false, true_and, and_true, not_true_eq_false, not_false_eq_true, if_pos, if_neg, z_ite_not, false_or, or_false, true_or, or_true, SWs, swk_0, swk_1]
          exact lp
        obtain ⟨I2, g1, g2, g3⟩ := cls
        have hK2 : RK (pop F) I2 cm (fun _ => false) := ⟨fun j hj => by rw [g1 191 (by decide)]; exact k1 j hj, g2⟩
        obtain ⟨I3, h, f3⟩ := r_findsMate (X := X) (J := J) (s := s) (F := F) hs 24 i d cm (fun _ => false) I2 (by rw [g1 178 (by decide)]; exact hS1) hK2 hK.1 hi (fun k hk e => by
          obtain ⟨a, _⟩ := hK.2.1 k hk i e
          omega) (Nat.le_trans (fb_ct_le _ _) h24) (by omega)
        have f3' : ∀ a, a ≠ 191 → a ≠ 195 → I3 a = I a := fun a h1 h2 => by rw [f3 a h1 h2, g1 a h2]; exact f1 a h1 h2
        rcases h with ⟨sn', y1, y2, y3⟩ | ⟨cm', sn', y1, y2, y3⟩
        · obtain ⟨I', t1, t2⟩ := ih I3 cm _ (.int (nI 24)) f3' y2.1 (KI_no hK y3)
          refine ⟨I', ?_, t2⟩
          have ten : Ev X d 243 10 [.ref 177, .int (nI s), .int (nI (ctC F cm)), .int (nI i), .int (nI 24)] [] (mk I2 J) (some (.int (nI (mo 24 F))), mk I' J) := by
            simp (disch := first | omega | assumption | exact rfl) only [U_243_10, U_243_12, U_243_13, U_243_14, XX, QQ, WW, KK, QX, SHs, RRs, Nat.reduceAdd, Nat.reduceMul, Nat.reduceLeDiff, Nat.reduceEqDiff, List.length_cons, List.length_nil, decide_true, decide_false, Bool.true_and, Bool.and_true, Bool.false_and, Bool.and_false, false_and, and_false, Bool.false_eq_true, Bool.true_eq_false, reduceCtorEq, eq_self, if_true, if_false, true_and, and_true, not_true_eq_false, not_false_eq_true, if_pos, if_neg, z_ite_not, false_or, or_false, true_or, or_true, SWs, swk_0, swk_1, y1]
            exact t1
          have sv := g3 _ ten
          rw [U_243_4]
          simp (disch := first | omega | assumption | exact rfl) only [U_243_5, XX, QQ, WW, KK, QX, SHs, RRs, Nat.reduceAdd, Nat.reduceMul, Nat.reduceLeDiff, Nat.reduceEqDiff, List.length_cons, List.length_nil, decide_true, decide_false, Bool.true_and, Bool.and_true, Bool.false_and, Bool.and_false, false_and, and_false, Bool.false_eq_true, Bool.true_eq_false, reduceCtorEq, eq_self, if_true, if_false, true_and, and_true, not_true_eq_false, not_false_eq_true, if_pos, if_neg, z_ite_not, false_or, or_false, true_or, or_true, SWs, swk_0, swk_1, c, x1, x2, er, b3]
          exact sv
        · obtain ⟨kk, kc⟩ := KI_yes hK ev y3
          obtain ⟨I', t1, t2⟩ := ih I3 cm' S (.int (nI 24)) f3' y2.1 kk
          rw [kc] at t1
          refine ⟨I', ?_, t2⟩
          have ten : Ev X d 243 10 [.ref 177, .int (nI s), .int (nI (ctC F cm)), .int (nI i), .int (nI 24)] [] (mk I2 J) (some (.int (nI (mo 24 F))), mk I' J) := by
            simp (disch := first | omega | assumption | exact rfl) only [U_243_10, U_243_11, U_243_13, U_243_14, XX, QQ, WW, KK, QX, SHs, RRs, Nat.reduceAdd, Nat.reduceMul, Nat.reduceLeDiff, Nat.reduceEqDiff, List.length_cons, List.length_nil, decide_true, decide_false, Bool.true_and, Bool.and_true, Bool.false_and, Bool.and_false, false_and, and_false, Bool.false_eq_true, Bool.true_eq_false, reduceCtorEq, eq_self, if_true, if_false, true_and, and_true, not_true_eq_false, not_false_eq_true, if_pos, if_neg, z_ite_not, false_or, or_false, true_or, or_true, SWs, swk_0, swk_1, y1]
            exact t1
          have sv := g3 _ ten
          rw [U_243_4]
          simp (disch := first | omega | assumption | exact rfl) only [U_243_5, XX, QQ, WW, KK, QX, SHs, RRs, Nat.reduceAdd, Nat.reduceMul, Nat.reduceLeDiff, Nat.reduceEqDiff, List.length_cons, List.length_nil, decide_true, decide_false, Bool.true_and, Bool.and_true, Bool.false_and, Bool.and_false, false_and, and_false, Bool.false_eq_true, Bool.true_eq_false, reduceCtorEq, eq_self, if_true, if_false, true_and, and_true, not_true_eq_false, not_false_eq_true, if_pos, if_neg, z_ite_not, false_or, or_false, true_or, or_true, SWs, swk_0, swk_1, c, x1, x2, er, b3]
          exact sv
      · have nx := ih I1 cm S u4 f1 k1 (KI_odd hK ev)
        obtain ⟨I', t1, t2⟩ := nx
        refine ⟨I', ?_, t2⟩
        have m1 : (pl F i % 8 + pl F i / 8) % 2 = 1 := by
          have : ¬ (pl F i % 8 + pl F i / 8) % 2 = 0 := ev
          omega
        rw [m1] at er
        rw [U_243_4]
        simp (disch := first | omega | assumption | exact rfl) only [U_243_5, U_243_6, U_243_14, XX, QQ, WW, KK, QX, SHs, RRs, Nat.reduceAdd, Nat.reduceMul, Nat.reduceLeDiff, Nat.reduceEqDiff, List.length_cons, List.length_nil, decide_true, decide_false, Bool.true_and, Bool.and_true, Bool.false_and, Bool.and_false, false_and, and_false, Bool.false_eq_true, Bool.true_eq_false, reduceCtorEq, eq_self, if_true, if_false, true_and, and_true, not_true_eq_false, not_false_eq_true, if_pos, if_neg, z_ite_not, false_or, or_false, true_or, or_true, SWs, swk_0, swk_1, c, x1, x2, er, b3]
        exact t1
  obtain ⟨I', w1, w2⟩ := walk (va_up I 191 (fillI 24 (-1) (I 191))) (.retAddr 0) (fun a h1 _ => vu_ne h1) (fun j hj => by rw [vu_eq]; unfold fillI; rw [if_pos (by omega)]; rfl)
  refine ⟨I', ?_, w2⟩
  refine callF_at (by omega) (by decide) (Nat.le_of_ble_eq_true rfl) (fun d' hd' => ?_)
  obtain rfl : d = d' := by omega
  show Ev X d 243 0 [.ref 177, .int (nI s), .retAddr 0, .retAddr 0, .retAddr 0] [] (mk I J) _
  have lp : Ev X d 243 1 [.ref 177, .int (nI s), .int (nI 0), .int (nI 0), .retAddr 0] [] (mk I J) (some (.int (nI (mo 24 F))), mk I' J) := by
    refine lpI (n := 24) (P := fun j => Ev X d 243 1 [.ref 177, .int (nI s), .int (nI 0), .int (nI j), .retAddr 0] [] (mk (va_up I 191 (fillI j (-1) (I 191))) J) (some (.int (nI (mo 24 F))), mk I' J)) ?_ ?_ (fun Q => by rw [fillI_0, vu_id] at Q; exact Q)
    · rw [U_243_1]
      simp (disch := first | omega | assumption | exact rfl) only [U_243_3, XX, QQ, WW, KK, QX, SHs, RRs, Nat.reduceAdd, Nat.reduceMul, Nat.reduceLeDiff, Nat.reduceEqDiff, List.length_cons, List.length_nil, decide_true, decide_false, Bool.true_and, Bool.and_true, Bool.false_and, Bool.and_false, false_and, and_false, Bool.false_eq_true, Bool.true_eq_false, reduceCtorEq, eq_self, if_true, if_false, true_and, and_true, not_true_eq_false, not_false_eq_true, if_pos, if_neg, z_ite_not, false_or, or_false, true_or, or_true, SWs, swk_0, swk_1]
      exact w1
    · intro j hj IH
      rw [← fillI_s] at IH
      rw [U_243_1]
      simp (disch := first | omega | assumption | exact rfl) only [U_243_2, XX, QQ, WW, KK, QX, SHs, RRs, Nat.reduceAdd, Nat.reduceMul, Nat.reduceLeDiff, Nat.reduceEqDiff, List.length_cons, List.length_nil, decide_true, decide_false, Bool.true_and, Bool.and_true, Bool.false_and, Bool.and_false, false_and, and_false, Bool.false_eq_true, Bool.true_eq_false, reduceCtorEq, eq_self, if_true, if_false, true_and, and_true, not_true_eq_false, not_false_eq_true, if_pos, if_neg, z_ite_not, false_or, or_false, true_or, or_true, SWs, swk_0, swk_1]
      exact IH
  simp (disch := first | omega | assumption | exact rfl) only [U_243_0, XX, QQ, WW, KK, QX, SHs, RRs, Nat.reduceAdd, Nat.reduceMul, Nat.reduceLeDiff, Nat.reduceEqDiff, List.length_cons, List.length_nil, decide_true, decide_false, Bool.true_and, Bool.and_true, Bool.false_and, Bool.and_false, false_and, and_false, Bool.false_eq_true, Bool.true_eq_false, reduceCtorEq, eq_self, if_true, if_false, true_and, and_true, not_true_eq_false, not_false_eq_true, if_pos, if_neg, z_ite_not, false_or, or_false, true_or, or_true, SWs, swk_0, swk_1]
  exact lp
