/-! ===== conditions joined (written by gen_join.py) ===== -/
section JOI
variable {X : Nat × (Nat → Int32)} {tp : Nat → Nat} {tl m dE dR o h : Nat}
theorem x_sipN {cal : Nat → List Value → Mem → Ans} {bk r1 r3 : Nat} {n : Int} {is : List AI} {L st : List Value} {M : Mem} : exF cal X bk ((.sipush n, r1, 1, r3) :: is) L st M = exF cal X bk is L (.int (-(nI r1)) :: st) M := rfl
def CjT (X : Nat × (Nat → Int32)) (dE mc : Nat) (tp : Nat → Nat) (tl o m m2 : Nat) (S0 : List (Nat × Nat)) : Prop := ∀ (d : Nat) (I : Nat → Nat → Int32) (J : Nat → Nat → Int64) (W : List Int32) (i : Nat), dE ≤ d → CPs I tp tl m W → W.length ≤ m → i ≤ m → ∃ I', CFr I I' ∧ CPs I' tp tl m2 (W ++ segC S0) ∧ Ev X d mc 1 [.ref 124, .int (nI o), .int (nI 1), .int (nI i)] [] (mk I J) (some (.int (nI 1)), mk I' J)
def CjF (X : Nat × (Nat → Int32)) (dE mc : Nat) (tp : Nat → Nat) (tl o m k p : Nat) : Prop := ∀ (d : Nat) (I : Nat → Nat → Int32) (J : Nat → Nat → Int64) (W : List Int32) (i : Nat), dE ≤ d → CPs I tp tl m W → W.length ≤ m → i ≤ m → ∃ I', CGl I I' k p ∧ Ev X d mc 1 [.ref 124, .int (nI o), .int (nI 1), .int (nI i)] [] (mk I J) (some (.int (nI 0)), mk I' J)
def RjT (X : Nat × (Nat → Int32)) (dR mj : Nat) (tp : Nat → Nat) (tl m o m2 : Nat) (S0 : List (Nat × Nat)) : Prop := ∀ (d : Nat) (I : Nat → Nat → Int32) (J : Nat → Nat → Int64) (Q : List (Nat × Nat)), dR ≤ d → RPs I tp tl m Q o → Q.length ≤ m → ∃ I', RFr I I' ∧ RPs I' tp tl m2 (Q ++ S0) o ∧ Ev X d mj 2 [.ref 177] [] (mk I J) (some (.int (nI 1)), mk I' J)
def RjF (X : Nat × (Nat → Int32)) (dR mj : Nat) (tp : Nat → Nat) (tl m o k p : Nat) : Prop := ∀ (d : Nat) (I : Nat → Nat → Int32) (J : Nat → Nat → Int64) (Q : List (Nat × Nat)), dR ≤ d → RPs I tp tl m Q o → Q.length ≤ m → ∃ I', RFl I I' k p ∧ Ev X d mj 2 [.ref 177] [] (mk I J) (some (.int (nI 0)), mk I' J)
/-! ===== joined by and ===== -/
theorem every_T (hE : ∀ m, m ≤ tkT tp tl → Outc X dE 61 [.ref 124, .int (nI o)] dR 179 tp tl m o (h + 1) true) (e1 : 2 ≤ dE) (e2 : 15 ≤ dR) (ho : o ≤ 8) : ∀ n m, tkT tp tl ≤ m + n → m ≤ tkT tp tl → (∃ k p, CjF X dE 266 tp tl o m k p ∧ RjF X dR 178 tp tl m o k p) ∨ ∃ m' S, m' ≤ tkT tp tl ∧ (segC S).length + m ≤ m' ∧ (∀ K : List Bool, K.length ≤ h → ak S (true :: K) = some (true :: K)) ∧ CjT X dE 266 tp tl o m m' S ∧ RjT X dR 178 tp tl m o m' S := by
  have base : ∀ m, m ≤ tkT tp tl → psK tp tl m ≠ 269 → (∃ k p, CjF X dE 266 tp tl o m k p ∧ RjF X dR 178 tp tl m o k p) ∨ ∃ m' S, m' ≤ tkT tp tl ∧ (segC S).length + m ≤ m' ∧ (∀ K : List Bool, K.length ≤ h → ak S (true :: K) = some (true :: K)) ∧ CjT X dE 266 tp tl o m m' S ∧ RjT X dR 178 tp tl m o m' S := by
    intro m hm a
    have kb := psK_b (tp := tp) (tl := tl) (m := m)
    refine .inr ⟨m, [], hm, by show 0 + m ≤ m; omega, fun K _ => rfl, fun d I J W i hd h hw hi => ?_, fun d I J Q hd h hq => ?_⟩
    · obtain ⟨k5, k6, k7⟩ := CPs_k h
      obtain ⟨t1, t2⟩ := T400 h
      refine ⟨I, CFr_refl I, by rw [segC, List.append_nil]; exact h, ?_⟩
      by_cases z : i < 400
      · simp (disch := first | omega | assumption | exact rfl) only [U_266_1, U_266_2, U_266_3, U_266_5, XX, QQ, WW, KK, QX, SHs, RRs, Nat.reduceAdd, Nat.reduceMul, Nat.reduceLeDiff, Nat.reduceEqDiff, List.length_cons, List.length_nil, decide_true, decide_false, Bool.true_and, Bool.and_true, Bool.false_and, Bool.and_false, false_and, and_false, Bool.false_eq_true, Bool.true_eq_false, reduceCtorEq, eq_self, if_true, if_false, true_and, and_true, not_true_eq_false, not_false_eq_true, if_pos, if_neg, z_ite_not, false_or, or_false, true_or, or_true, SWs, swk_0, swk_1, k5, a, z]
      · simp (disch := first | omega | assumption | exact rfl) only [U_266_1, U_266_5, XX, QQ, WW, KK, QX, SHs, RRs, Nat.reduceAdd, Nat.reduceMul, Nat.reduceLeDiff, Nat.reduceEqDiff, List.length_cons, List.length_nil, decide_true, decide_false, Bool.true_and, Bool.and_true, Bool.false_and, Bool.and_false, false_and, and_false, Bool.false_eq_true, Bool.true_eq_false, reduceCtorEq, eq_self, if_true, if_false, true_and, and_true, not_true_eq_false, not_false_eq_true, if_pos, if_neg, z_ite_not, false_or, or_false, true_or, or_true, SWs, swk_0, swk_1, z]
    · obtain ⟨k5, k6, k7⟩ := RPs_k h
      have g := rq_2 _ kb
      have g6 := (rq_4 _ kb).2.2.2.2
      have z1 : ¬ rtk false (psK tp tl m) = 5 := fun z => a (g.2.1.mp z)
      refine ⟨I, RFr_refl I, by rw [List.append_nil]; exact h, ?_⟩
      rw [U_178_2]
      simp (disch := first | omega | assumption | exact rfl) only [U_178_6, XX, QQ, WW, KK, QX, SHs, RRs, Nat.reduceAdd, Nat.reduceMul, Nat.reduceLeDiff, Nat.reduceEqDiff, List.length_cons, List.length_nil, decide_true, decide_false, Bool.true_and, Bool.and_true, Bool.false_and, Bool.and_false, false_and, and_false, Bool.false_eq_true, Bool.true_eq_false, reduceCtorEq, eq_self, if_true, if_false, true_and, and_true, not_true_eq_false, not_false_eq_true, if_pos, if_neg, z_ite_not, false_or, or_false, true_or, or_true, SWs, swk_0, swk_1, k5, z1]
  intro n
  induction n with
  | zero =>
    intro m h1 h2
    have e : m = tkT tp tl := by omega
    have k0 : psK tp tl m = 0 := by rw [e]; exact psK_T
    exact base m h2 (by omega)
  | succ n ih =>
    intro m h1 h2
    by_cases a : psK tp tl m = 269
    · have hm := psK_lt h2 (by omega)
      have rst : ∀ (d : Nat) (I : Nat → Nat → Int32) (J : Nat → Nat → Int64) (Q : List (Nat × Nat)), dR ≤ d → RPs I tp tl m Q o → ∃ I', RFr I I' ∧ RPs I' tp tl (m + 1) Q o ∧ (∀ I2, callF X d 179 [.ref 177] (mk I' J) = some (some (.int (nI 0)), mk I2 J) → Ev X d 178 2 [.ref 177] [] (mk I J) (some (.int (nI 0)), mk I2 J)) ∧ ∀ I2 I3 r, callF X d 179 [.ref 177] (mk I' J) = some (some (.int (nI 1)), mk I2 J) → callF X d 172 [.ref 177, .int (nI 14), .int (nI 0)] (mk I2 J) = some (none, mk I3 J) → Ev X d 178 2 [.ref 177] [] (mk I3 J) r → Ev X d 178 2 [.ref 177] [] (mk I J) r := by
        intro d I J Q hd h
        obtain ⟨k5, k6, k7⟩ := RPs_k h
        obtain ⟨I1, e1, f1, s1⟩ := r_nx (X := X) (d := d) (J := J) (by omega) h hm
        have k9 : I 177 14 = nI 5 := by rw [k5, a]; rfl
        refine ⟨I1, f1, s1, fun I2 e2 => ?_, fun I2 I3 r e2 e3 H => ?_⟩
        · rw [U_178_2]
          simp (disch := first | omega | assumption | exact rfl) only [U_178_3, U_178_4, XX, QQ, WW, KK, QX, SHs, RRs, Nat.reduceAdd, Nat.reduceMul, Nat.reduceLeDiff, Nat.reduceEqDiff, List.length_cons, List.length_nil, decide_true, decide_false, Bool.true_and, Bool.and_true, Bool.false_and, Bool.and_false, false_and, and_false, Bool.false_eq_true, Bool.true_eq_false, reduceCtorEq, eq_self, if_true, if_false, true_and, and_true, not_true_eq_false, not_false_eq_true, if_pos, if_neg, z_ite_not, false_or, or_false, true_or, or_true, SWs, swk_0, swk_1, k9, e1, e2]
        · rw [U_178_2]
          simp (disch := first | omega | assumption | exact rfl) only [U_178_3, U_178_5, XX, QQ, WW, KK, QX, SHs, RRs, Nat.reduceAdd, Nat.reduceMul, Nat.reduceLeDiff, Nat.reduceEqDiff, List.length_cons, List.length_nil, decide_true, decide_false, Bool.true_and, Bool.and_true, Bool.false_and, Bool.and_false, false_and, and_false, Bool.false_eq_true, Bool.true_eq_false, reduceCtorEq, eq_self, if_true, if_false, true_and, and_true, not_true_eq_false, not_false_eq_true, if_pos, if_neg, z_ite_not, false_or, or_false, true_or, or_true, SWs, swk_0, swk_1, k9, e1, e2, e3]
          exact H
      rcases hE (m + 1) (by omega) with ⟨k, p, c1, c2⟩ | ⟨m1, S1, p1, p2, p3, p4, p5, p6⟩
      · refine .inl ⟨k, p, fun d I J W i hd h hw hi => ?_, fun d I J Q hd h hq => ?_⟩
        · obtain ⟨k5, k6, k7⟩ := CPs_k h
          obtain ⟨t1, t2⟩ := T400 h
          obtain ⟨I1, e1, f1, s1⟩ := c_nx (X := X) (d := d) (J := J) (by omega) h hm
          obtain ⟨I2, e2, f2⟩ := c1 d I1 J W hd s1 (by omega)
          obtain ⟨I3, e3, f3⟩ := c_wrG (X := X) (d := d) (J := J) (x := -(nI 269)) (by omega) (CGl_after f1 f2)
          have z1 : i < 400 := by omega
          refine ⟨I3, f3, ?_⟩
          by_cases z2 : i + 1 < 400
          · simp (disch := first | omega | assumption | exact rfl) only [U_266_1, U_266_2, U_266_3, U_266_4, U_266_5, XX, QQ, WW, KK, QX, SHs, RRs, Nat.reduceAdd, Nat.reduceMul, Nat.reduceLeDiff, Nat.reduceEqDiff, List.length_cons, List.length_nil, decide_true, decide_false, Bool.true_and, Bool.and_true, Bool.false_and, Bool.and_false, false_and, and_false, Bool.false_eq_true, Bool.true_eq_false, reduceCtorEq, eq_self, if_true, if_false, true_and, and_true, not_true_eq_false, not_false_eq_true, if_pos, if_neg, z_ite_not, false_or, or_false, true_or, or_true, SWs, swk_0, swk_1, x_sipN, k5, a, z1, z2, e1, e2, e3]
          · simp (disch := first | omega | assumption | exact rfl) only [U_266_1, U_266_2, U_266_3, U_266_4, U_266_5, XX, QQ, WW, KK, QX, SHs, RRs, Nat.reduceAdd, Nat.reduceMul, Nat.reduceLeDiff, Nat.reduceEqDiff, List.length_cons, List.length_nil, decide_true, decide_false, Bool.true_and, Bool.and_true, Bool.false_and, Bool.and_false, false_and, and_false, Bool.false_eq_true, Bool.true_eq_false, reduceCtorEq, eq_self, if_true, if_false, true_and, and_true, not_true_eq_false, not_false_eq_true, if_pos, if_neg, z_ite_not, false_or, or_false, true_or, or_true, SWs, swk_0, swk_1, x_sipN, k5, a, z1, z2, e1, e2, e3]
        · obtain ⟨I1, f1, s1, H1, _⟩ := rst d I J Q hd h
          obtain ⟨I2, e2, f2⟩ := c2 d I1 J Q hd s1 (by omega)
          exact ⟨I2, RFl_after f1 f2, H1 _ e2⟩
      · have cl := segC_l S1
        have cs2 : ∀ (d : Nat) (I : Nat → Nat → Int32) (J : Nat → Nat → Int64) (W : List Int32) (i : Nat), dE ≤ d → CPs I tp tl m W → W.length ≤ m → i ≤ m → ∃ I' i', CFr I I' ∧ CPs I' tp tl m1 (W ++ segC (S1 ++ [(14, 0)])) ∧ i' ≤ m1 ∧ ∀ r, Ev X d 266 1 [.ref 124, .int (nI o), .int (nI 1), .int (nI i')] [] (mk I' J) r → Ev X d 266 1 [.ref 124, .int (nI o), .int (nI 1), .int (nI i)] [] (mk I J) r := by
          intro d I J W i hd h hw hi
          obtain ⟨k5, k6, k7⟩ := CPs_k h
          obtain ⟨t0, t02⟩ := T400 h
          obtain ⟨I1, e1, f1, s1⟩ := c_nx (X := X) (d := d) (J := J) (by omega) h hm
          obtain ⟨I2, e2, f2, s2⟩ := p5 d I1 J W hd s1 (by omega)
          obtain ⟨t1, t2⟩ := T400 s2
          obtain ⟨I3, e3, f3, s3⟩ := c_wr (X := X) (d := d) (J := J) (x := -(nI 269)) (by omega) s2 (by rw [List.length_append]; omega)
          rw [segC_app, show segC [(14, 0)] = [-(nI 269)] from rfl, ← List.append_assoc]
          have z1 : i < 400 := by omega
          refine ⟨I3, i + 1, CFr_trans f1 (CFr_trans f2 f3), s3, by omega, fun r H => ?_⟩
          rw [U_266_1]
          simp (disch := first | omega | assumption | exact rfl) only [U_266_2, U_266_3, U_266_4, XX, QQ, WW, KK, QX, SHs, RRs, Nat.reduceAdd, Nat.reduceMul, Nat.reduceLeDiff, Nat.reduceEqDiff, List.length_cons, List.length_nil, decide_true, decide_false, Bool.true_and, Bool.and_true, Bool.false_and, Bool.and_false, false_and, and_false, Bool.false_eq_true, Bool.true_eq_false, reduceCtorEq, eq_self, if_true, if_false, true_and, and_true, not_true_eq_false, not_false_eq_true, if_pos, if_neg, z_ite_not, false_or, or_false, true_or, or_true, SWs, swk_0, swk_1, x_sipN, k5, a, z1, e1, e2, e3]
          exact H
        have rs2 : ∀ (d : Nat) (I : Nat → Nat → Int32) (J : Nat → Nat → Int64) (Q : List (Nat × Nat)), dR ≤ d → RPs I tp tl m Q o → Q.length ≤ m → ∃ I', RFr I I' ∧ RPs I' tp tl m1 (Q ++ (S1 ++ [(14, 0)])) o ∧ ∀ r, Ev X d 178 2 [.ref 177] [] (mk I' J) r → Ev X d 178 2 [.ref 177] [] (mk I J) r := by
          intro d I J Q hd h hq
          obtain ⟨I1, f1, s1, _, H1⟩ := rst d I J Q hd h
          obtain ⟨I2, e2, f2, s2⟩ := p6 d I1 J Q hd s1 (by omega)
          obtain ⟨t1, t2⟩ := RPs_l s2
          obtain ⟨I3, e3, f3, s3⟩ := r_lay0 (X := X) (d := d) (J := J) (op := 14) (v := nI 0) (x := 0) (by omega) s2 (by rw [List.length_append]; omega) (fun _ => rfl)
          rw [← List.append_assoc]
          exact ⟨I3, RFr_trans f1 (RFr_trans f2 f3), s3, fun r H => H1 I2 I3 r e2 e3 H⟩
        have ll : (segC (S1 ++ [(14, 0)])).length + m ≤ m1 := by
          rw [segC_app, show segC [(14, 0)] = [-(nI 269)] from rfl, List.length_append]; show _ + 1 + m ≤ m1; omega
        have ll2 := segC_l (S1 ++ [(14, 0)])
        rcases ih m1 (by omega) p1 with ⟨k, p, c1, c2⟩ | ⟨m', S, c1, c2, c3, c4, c5⟩
        · refine .inl ⟨k, p, fun d I J W i hd h hw hi => ?_, fun d I J Q hd h hq => ?_⟩
          · obtain ⟨I1, i1, f1, s1, q1, H1⟩ := cs2 d I J W i hd h hw hi
            obtain ⟨I2, f2, H2⟩ := c1 d I1 J _ i1 hd s1 (by rw [List.length_append]; omega) q1
            exact ⟨I2, CGl_after f1 f2, H1 _ H2⟩
          · obtain ⟨I1, f1, s1, H1⟩ := rs2 d I J Q hd h hq
            obtain ⟨I2, f2, H2⟩ := c2 d I1 J _ hd s1 (by rw [List.length_append]; omega)
            exact ⟨I2, RFl_after f1 f2, H1 _ H2⟩
        · refine .inr ⟨m', (S1 ++ [(14, 0)]) ++ S, c1, ?_, fun K hK => ?_, fun d I J W i hd h hw hi => ?_, fun d I J Q hd h hq => ?_⟩
          · rw [segC_app, List.length_append]; omega
          · rw [List.append_assoc, ak_then (p4 (true :: K) (by rw [List.length_cons]; omega)), List.cons_append, List.nil_append, ak_c (K' := true :: K) rfl]
            exact c3 K hK
          · obtain ⟨I1, i1, f1, s1, q1, H1⟩ := cs2 d I J W i hd h hw hi
            obtain ⟨I2, f2, s2, H2⟩ := c4 d I1 J _ i1 hd s1 (by rw [List.length_append]; omega) q1
            rw [List.append_assoc, ← segC_app] at s2
            exact ⟨I2, CFr_trans f1 f2, s2, H1 _ H2⟩
          · obtain ⟨I1, f1, s1, H1⟩ := rs2 d I J Q hd h hq
            obtain ⟨I2, f2, s2, H2⟩ := c5 d I1 J _ hd s1 (by rw [List.length_append]; omega)
            rw [List.append_assoc] at s2
            exact ⟨I2, RFr_trans f1 f2, s2, H1 _ H2⟩
    · exact base m h2 a
theorem every_ (hE : ∀ m, m ≤ tkT tp tl → Outc X dE 61 [.ref 124, .int (nI o)] dR 179 tp tl m o (h + 1) true) (e1 : 2 ≤ dE) (e2 : 15 ≤ dR) (ho : o ≤ 8) (h2 : m ≤ tkT tp tl) : Outc X (dE + 1) 266 [.ref 124, .int (nI o)] (dR + 1) 178 tp tl m o h true := by
  rcases hE m h2 with ⟨k, p, c1, c2⟩ | ⟨m1, S1, p1, p2, p3, p4, p5, p6⟩
  · refine .inl ⟨k, p, fun d I J W hd h hw => ?_, fun d I J Q hd h hq => ?_⟩
    · obtain ⟨d, rfl⟩ : ∃ d', d = d' + 1 := ⟨d - 1, by omega⟩
      obtain ⟨I2, e2, f2⟩ := c1 d I J W (by omega) h hw
      refine ⟨I2, ?_, f2⟩
      refine callF_of (by decide) (Nat.le_of_ble_eq_true rfl) ?_
      show Ev X d 266 0 [.ref 124, .int (nI o), .retAddr 0, .retAddr 0] [] ( mk I J) _
      simp (disch := first | omega | assumption | exact rfl) only [U_266_0, U_266_1, U_266_2, U_266_5, XX, QQ, WW, KK, QX, SHs, RRs, Nat.reduceAdd, Nat.reduceMul, Nat.reduceLeDiff, Nat.reduceEqDiff, List.length_cons, List.length_nil, decide_true, decide_false, Bool.true_and, Bool.and_true, Bool.false_and, Bool.and_false, false_and, and_false, Bool.false_eq_true, Bool.true_eq_false, reduceCtorEq, eq_self, if_true, if_false, true_and, and_true, not_true_eq_false, not_false_eq_true, if_pos, if_neg, z_ite_not, false_or, or_false, true_or, or_true, SWs, swk_0, swk_1, e2]
    · obtain ⟨d, rfl⟩ : ∃ d', d = d' + 1 := ⟨d - 1, by omega⟩
      obtain ⟨I2, e2, f2⟩ := c2 d I J Q (by omega) h hq
      refine ⟨I2, ?_, f2⟩
      refine callF_of (by decide) (Nat.le_of_ble_eq_true rfl) ?_
      show Ev X d 178 0 [.ref 177] [] ( mk I J) _
      simp (disch := first | omega | assumption | exact rfl) only [U_178_0, U_178_1, XX, QQ, WW, KK, QX, SHs, RRs, Nat.reduceAdd, Nat.reduceMul, Nat.reduceLeDiff, Nat.reduceEqDiff, List.length_cons, List.length_nil, decide_true, decide_false, Bool.true_and, Bool.and_true, Bool.false_and, Bool.and_false, false_and, and_false, Bool.false_eq_true, Bool.true_eq_false, reduceCtorEq, eq_self, if_true, if_false, true_and, and_true, not_true_eq_false, not_false_eq_true, if_pos, if_neg, z_ite_not, false_or, or_false, true_or, or_true, SWs, swk_0, swk_1, e2]
  · have cl := segC_l S1
    have cst : ∀ (d : Nat) (I : Nat → Nat → Int32) (J : Nat → Nat → Int64) (W : List Int32), dE ≤ d → CPs I tp tl m W → W.length ≤ m → ∃ I', CFr I I' ∧ CPs I' tp tl m1 (W ++ segC S1) ∧ ∀ r, Ev X d 266 1 [.ref 124, .int (nI o), .int (nI 1), .int (nI 0)] [] (mk I' J) r → callF X (d + 1) 266 [.ref 124, .int (nI o)] (mk I J) = some r := by
      intro d I J W hd h hw
      obtain ⟨I2, e2, f2, s2⟩ := p5 d I J W hd h hw
      refine ⟨I2, f2, s2, fun r H => ?_⟩
      refine callF_of (by decide) (Nat.le_of_ble_eq_true rfl) ?_
      show Ev X d 266 0 [.ref 124, .int (nI o), .retAddr 0, .retAddr 0] [] ( mk I J) _
      simp (disch := first | omega | assumption | exact rfl) only [U_266_0, XX, QQ, WW, KK, QX, SHs, RRs, Nat.reduceAdd, Nat.reduceMul, Nat.reduceLeDiff, Nat.reduceEqDiff, List.length_cons, List.length_nil, decide_true, decide_false, Bool.true_and, Bool.and_true, Bool.false_and, Bool.and_false, false_and, and_false, Bool.false_eq_true, Bool.true_eq_false, reduceCtorEq, eq_self, if_true, if_false, true_and, and_true, not_true_eq_false, not_false_eq_true, if_pos, if_neg, z_ite_not, false_or, or_false, true_or, or_true, SWs, swk_0, swk_1, e2]
      exact H
    have rst : ∀ (d : Nat) (I : Nat → Nat → Int32) (J : Nat → Nat → Int64) (Q : List (Nat × Nat)), dR ≤ d → RPs I tp tl m Q o → Q.length ≤ m → ∃ I', RFr I I' ∧ RPs I' tp tl m1 (Q ++ S1) o ∧ ∀ r, Ev X d 178 2 [.ref 177] [] (mk I' J) r → callF X (d + 1) 178 [.ref 177] (mk I J) = some r := by
      intro d I J Q hd h hq
      obtain ⟨I2, e2, f2, s2⟩ := p6 d I J Q hd h hq
      refine ⟨I2, f2, s2, fun r H => ?_⟩
      refine callF_of (by decide) (Nat.le_of_ble_eq_true rfl) ?_
      show Ev X d 178 0 [.ref 177] [] ( mk I J) _
      simp (disch := first | omega | assumption | exact rfl) only [U_178_0, XX, QQ, WW, KK, QX, SHs, RRs, Nat.reduceAdd, Nat.reduceMul, Nat.reduceLeDiff, Nat.reduceEqDiff, List.length_cons, List.length_nil, decide_true, decide_false, Bool.true_and, Bool.and_true, Bool.false_and, Bool.and_false, false_and, and_false, Bool.false_eq_true, Bool.true_eq_false, reduceCtorEq, eq_self, if_true, if_false, true_and, and_true, not_true_eq_false, not_false_eq_true, if_pos, if_neg, z_ite_not, false_or, or_false, true_or, or_true, SWs, swk_0, swk_1, e2]
      exact H
    rcases every_T (X := X) (tp := tp) (tl := tl) hE e1 e2 ho (tkT tp tl) m1 (by omega) p1 with ⟨k, p, c1, c2⟩ | ⟨m', S, c1, c2, c3, c4, c5⟩
    · refine .inl ⟨k, p, fun d I J W hd h hw => ?_, fun d I J Q hd h hq => ?_⟩
      · obtain ⟨d, rfl⟩ : ∃ d', d = d' + 1 := ⟨d - 1, by omega⟩
        obtain ⟨I1, f1, s1, H1⟩ := cst d I J W (by omega) h hw
        obtain ⟨I2, f2, H2⟩ := c1 d I1 J _ 0 (by omega) s1 (by rw [List.length_append]; omega) (by omega)
        exact ⟨I2, H1 _ H2, CGl_after f1 f2⟩
      · obtain ⟨d, rfl⟩ : ∃ d', d = d' + 1 := ⟨d - 1, by omega⟩
        obtain ⟨I1, f1, s1, H1⟩ := rst d I J Q (by omega) h hq
        obtain ⟨I2, f2, H2⟩ := c2 d I1 J _ (by omega) s1 (by rw [List.length_append]; omega)
        exact ⟨I2, H1 _ H2, RFl_after f1 f2⟩
    · refine .inr ⟨m', S1 ++ S, c1, by omega, ?_, fun K hK => ?_, fun d I J W hd h hw => ?_, fun d I J Q hd h hq => ?_⟩
      · rw [segC_app, List.length_append]; omega
      · rw [ak_then (p4 K (by omega))]; exact c3 K hK
      · obtain ⟨d, rfl⟩ : ∃ d', d = d' + 1 := ⟨d - 1, by omega⟩
        obtain ⟨I1, f1, s1, H1⟩ := cst d I J W (by omega) h hw
        obtain ⟨I2, f2, s2, H2⟩ := c4 d I1 J _ 0 (by omega) s1 (by rw [List.length_append]; omega) (by omega)
        rw [List.append_assoc, ← segC_app] at s2
        exact ⟨I2, H1 _ H2, CFr_trans f1 f2, s2⟩
      · obtain ⟨d, rfl⟩ : ∃ d', d = d' + 1 := ⟨d - 1, by omega⟩
        obtain ⟨I1, f1, s1, H1⟩ := rst d I J Q (by omega) h hq
        obtain ⟨I2, f2, s2, H2⟩ := c5 d I1 J _ (by omega) s1 (by rw [List.length_append]; omega)
        rw [List.append_assoc] at s2
        exact ⟨I2, H1 _ H2, RFr_trans f1 f2, s2⟩
/-! ===== joined by or ===== -/
theorem any_T (hE : ∀ m, m ≤ tkT tp tl → Outc X dE 266 [.ref 124, .int (nI o)] dR 178 tp tl m o (h + 1) true) (e1 : 2 ≤ dE) (e2 : 15 ≤ dR) (ho : o ≤ 8) : ∀ n m, tkT tp tl ≤ m + n → m ≤ tkT tp tl → (∃ k p, CjF X dE 60 tp tl o m k p ∧ RjF X dR 177 tp tl m o k p) ∨ ∃ m' S, m' ≤ tkT tp tl ∧ (segC S).length + m ≤ m' ∧ (∀ K : List Bool, K.length ≤ h → ak S (true :: K) = some (true :: K)) ∧ CjT X dE 60 tp tl o m m' S ∧ RjT X dR 177 tp tl m o m' S := by
  have base : ∀ m, m ≤ tkT tp tl → psK tp tl m ≠ 268 → (∃ k p, CjF X dE 60 tp tl o m k p ∧ RjF X dR 177 tp tl m o k p) ∨ ∃ m' S, m' ≤ tkT tp tl ∧ (segC S).length + m ≤ m' ∧ (∀ K : List Bool, K.length ≤ h → ak S (true :: K) = some (true :: K)) ∧ CjT X dE 60 tp tl o m m' S ∧ RjT X dR 177 tp tl m o m' S := by
    intro m hm a
    have kb := psK_b (tp := tp) (tl := tl) (m := m)
    refine .inr ⟨m, [], hm, by show 0 + m ≤ m; omega, fun K _ => rfl, fun d I J W i hd h hw hi => ?_, fun d I J Q hd h hq => ?_⟩
    · obtain ⟨k5, k6, k7⟩ := CPs_k h
      obtain ⟨t1, t2⟩ := T400 h
      refine ⟨I, CFr_refl I, by rw [segC, List.append_nil]; exact h, ?_⟩
      by_cases z : i < 400
      · simp (disch := first | omega | assumption | exact rfl) only [U_60_1, U_60_2, U_60_3, U_60_5, XX, QQ, WW, KK, QX, SHs, RRs, Nat.reduceAdd, Nat.reduceMul, Nat.reduceLeDiff, Nat.reduceEqDiff, List.length_cons, List.length_nil, decide_true, decide_false, Bool.true_and, Bool.and_true, Bool.false_and, Bool.and_false, false_and, and_false, Bool.false_eq_true, Bool.true_eq_false, reduceCtorEq, eq_self, if_true, if_false, true_and, and_true, not_true_eq_false, not_false_eq_true, if_pos, if_neg, z_ite_not, false_or, or_false, true_or, or_true, SWs, swk_0, swk_1, k5, a, z]
      · simp (disch := first | omega | assumption | exact rfl) only [U_60_1, U_60_5, XX, QQ, WW, KK, QX, SHs, RRs, Nat.reduceAdd, Nat.reduceMul, Nat.reduceLeDiff, Nat.reduceEqDiff, List.length_cons, List.length_nil, decide_true, decide_false, Bool.true_and, Bool.and_true, Bool.false_and, Bool.and_false, false_and, and_false, Bool.false_eq_true, Bool.true_eq_false, reduceCtorEq, eq_self, if_true, if_false, true_and, and_true, not_true_eq_false, not_false_eq_true, if_pos, if_neg, z_ite_not, false_or, or_false, true_or, or_true, SWs, swk_0, swk_1, z]
    · obtain ⟨k5, k6, k7⟩ := RPs_k h
      have g := rq_2 _ kb
      have g6 := (rq_4 _ kb).2.2.2.2
      have z1 : ¬ rtk false (psK tp tl m) = 4 := fun z => a (g.1.mp z)
      refine ⟨I, RFr_refl I, by rw [List.append_nil]; exact h, ?_⟩
      rw [U_177_2]
      simp (disch := first | omega | assumption | exact rfl) only [U_177_6, XX, QQ, WW, KK, QX, SHs, RRs, Nat.reduceAdd, Nat.reduceMul, Nat.reduceLeDiff, Nat.reduceEqDiff, List.length_cons, List.length_nil, decide_true, decide_false, Bool.true_and, Bool.and_true, Bool.false_and, Bool.and_false, false_and, and_false, Bool.false_eq_true, Bool.true_eq_false, reduceCtorEq, eq_self, if_true, if_false, true_and, and_true, not_true_eq_false, not_false_eq_true, if_pos, if_neg, z_ite_not, false_or, or_false, true_or, or_true, SWs, swk_0, swk_1, k5, z1]
  intro n
  induction n with
  | zero =>
    intro m h1 h2
    have e : m = tkT tp tl := by omega
    have k0 : psK tp tl m = 0 := by rw [e]; exact psK_T
    exact base m h2 (by omega)
  | succ n ih =>
    intro m h1 h2
    by_cases a : psK tp tl m = 268
    · have hm := psK_lt h2 (by omega)
      have rst : ∀ (d : Nat) (I : Nat → Nat → Int32) (J : Nat → Nat → Int64) (Q : List (Nat × Nat)), dR ≤ d → RPs I tp tl m Q o → ∃ I', RFr I I' ∧ RPs I' tp tl (m + 1) Q o ∧ (∀ I2, callF X d 178 [.ref 177] (mk I' J) = some (some (.int (nI 0)), mk I2 J) → Ev X d 177 2 [.ref 177] [] (mk I J) (some (.int (nI 0)), mk I2 J)) ∧ ∀ I2 I3 r, callF X d 178 [.ref 177] (mk I' J) = some (some (.int (nI 1)), mk I2 J) → callF X d 172 [.ref 177, .int (nI 15), .int (nI 0)] (mk I2 J) = some (none, mk I3 J) → Ev X d 177 2 [.ref 177] [] (mk I3 J) r → Ev X d 177 2 [.ref 177] [] (mk I J) r := by
        intro d I J Q hd h
        obtain ⟨k5, k6, k7⟩ := RPs_k h
        obtain ⟨I1, e1, f1, s1⟩ := r_nx (X := X) (d := d) (J := J) (by omega) h hm
        have k9 : I 177 14 = nI 4 := by rw [k5, a]; rfl
        refine ⟨I1, f1, s1, fun I2 e2 => ?_, fun I2 I3 r e2 e3 H => ?_⟩
        · rw [U_177_2]
          simp (disch := first | omega | assumption | exact rfl) only [U_177_3, U_177_4, XX, QQ, WW, KK, QX, SHs, RRs, Nat.reduceAdd, Nat.reduceMul, Nat.reduceLeDiff, Nat.reduceEqDiff, List.length_cons, List.length_nil, decide_true, decide_false, Bool.true_and, Bool.and_true, Bool.false_and, Bool.and_false, false_and, and_false, Bool.false_eq_true, Bool.true_eq_false, reduceCtorEq, eq_self, if_true, if_false, true_and, and_true, not_true_eq_false, not_false_eq_true, if_pos, if_neg, z_ite_not, false_or, or_false, true_or, or_true, SWs, swk_0, swk_1, k9, e1, e2]
        · rw [U_177_2]
          simp (disch := first | omega | assumption | exact rfl) only [U_177_3, U_177_5, XX, QQ, WW, KK, QX, SHs, RRs, Nat.reduceAdd, Nat.reduceMul, Nat.reduceLeDiff, Nat.reduceEqDiff, List.length_cons, List.length_nil, decide_true, decide_false, Bool.true_and, Bool.and_true, Bool.false_and, Bool.and_false, false_and, and_false, Bool.false_eq_true, Bool.true_eq_false, reduceCtorEq, eq_self, if_true, if_false, true_and, and_true, not_true_eq_false, not_false_eq_true, if_pos, if_neg, z_ite_not, false_or, or_false, true_or, or_true, SWs, swk_0, swk_1, k9, e1, e2, e3]
          exact H
      rcases hE (m + 1) (by omega) with ⟨k, p, c1, c2⟩ | ⟨m1, S1, p1, p2, p3, p4, p5, p6⟩
      · refine .inl ⟨k, p, fun d I J W i hd h hw hi => ?_, fun d I J Q hd h hq => ?_⟩
        · obtain ⟨k5, k6, k7⟩ := CPs_k h
          obtain ⟨t1, t2⟩ := T400 h
          obtain ⟨I1, e1, f1, s1⟩ := c_nx (X := X) (d := d) (J := J) (by omega) h hm
          obtain ⟨I2, e2, f2⟩ := c1 d I1 J W hd s1 (by omega)
          obtain ⟨I3, e3, f3⟩ := c_wrG (X := X) (d := d) (J := J) (x := -(nI 268)) (by omega) (CGl_after f1 f2)
          have z1 : i < 400 := by omega
          refine ⟨I3, f3, ?_⟩
          by_cases z2 : i + 1 < 400
          · simp (disch := first | omega | assumption | exact rfl) only [U_60_1, U_60_2, U_60_3, U_60_4, U_60_5, XX, QQ, WW, KK, QX, SHs, RRs, Nat.reduceAdd, Nat.reduceMul, Nat.reduceLeDiff, Nat.reduceEqDiff, List.length_cons, List.length_nil, decide_true, decide_false, Bool.true_and, Bool.and_true, Bool.false_and, Bool.and_false, false_and, and_false, Bool.false_eq_true, Bool.true_eq_false, reduceCtorEq, eq_self, if_true, if_false, true_and, and_true, not_true_eq_false, not_false_eq_true, if_pos, if_neg, z_ite_not, false_or, or_false, true_or, or_true, SWs, swk_0, swk_1, x_sipN, k5, a, z1, z2, e1, e2, e3]
          · simp (disch := first | omega | assumption | exact rfl) only [U_60_1, U_60_2, U_60_3, U_60_4, U_60_5, XX, QQ, WW, KK, QX, SHs, RRs, Nat.reduceAdd, Nat.reduceMul, Nat.reduceLeDiff, Nat.reduceEqDiff, List.length_cons, List.length_nil, decide_true, decide_false, Bool.true_and, Bool.and_true, Bool.false_and, Bool.and_false, false_and, and_false, Bool.false_eq_true, Bool.true_eq_false, reduceCtorEq, eq_self, if_true, if_false, true_and, and_true, not_true_eq_false, not_false_eq_true, if_pos, if_neg, z_ite_not, false_or, or_false, true_or, or_true, SWs, swk_0, swk_1, x_sipN, k5, a, z1, z2, e1, e2, e3]
        · obtain ⟨I1, f1, s1, H1, _⟩ := rst d I J Q hd h
          obtain ⟨I2, e2, f2⟩ := c2 d I1 J Q hd s1 (by omega)
          exact ⟨I2, RFl_after f1 f2, H1 _ e2⟩
      · have cl := segC_l S1
        have cs2 : ∀ (d : Nat) (I : Nat → Nat → Int32) (J : Nat → Nat → Int64) (W : List Int32) (i : Nat), dE ≤ d → CPs I tp tl m W → W.length ≤ m → i ≤ m → ∃ I' i', CFr I I' ∧ CPs I' tp tl m1 (W ++ segC (S1 ++ [(15, 0)])) ∧ i' ≤ m1 ∧ ∀ r, Ev X d 60 1 [.ref 124, .int (nI o), .int (nI 1), .int (nI i')] [] (mk I' J) r → Ev X d 60 1 [.ref 124, .int (nI o), .int (nI 1), .int (nI i)] [] (mk I J) r := by
          intro d I J W i hd h hw hi
          obtain ⟨k5, k6, k7⟩ := CPs_k h
          obtain ⟨t0, t02⟩ := T400 h
          obtain ⟨I1, e1, f1, s1⟩ := c_nx (X := X) (d := d) (J := J) (by omega) h hm
          obtain ⟨I2, e2, f2, s2⟩ := p5 d I1 J W hd s1 (by omega)
          obtain ⟨t1, t2⟩ := T400 s2
          obtain ⟨I3, e3, f3, s3⟩ := c_wr (X := X) (d := d) (J := J) (x := -(nI 268)) (by omega) s2 (by rw [List.length_append]; omega)
          rw [segC_app, show segC [(15, 0)] = [-(nI 268)] from rfl, ← List.append_assoc]
          have z1 : i < 400 := by omega
          refine ⟨I3, i + 1, CFr_trans f1 (CFr_trans f2 f3), s3, by omega, fun r H => ?_⟩
          rw [U_60_1]
          simp (disch := first | omega | assumption | exact rfl) only [U_60_2, U_60_3, U_60_4, XX, QQ, WW, KK, QX, SHs, RRs, Nat.reduceAdd, Nat.reduceMul, Nat.reduceLeDiff, Nat.reduceEqDiff, List.length_cons, List.length_nil, decide_true, decide_false, Bool.true_and, Bool.and_true, Bool.false_and, Bool.and_false, false_and, and_false, Bool.false_eq_true, Bool.true_eq_false, reduceCtorEq, eq_self, if_true, if_false, true_and, and_true, not_true_eq_false, not_false_eq_true, if_pos, if_neg, z_ite_not, false_or, or_false, true_or, or_true, SWs, swk_0, swk_1, x_sipN, k5, a, z1, e1, e2, e3]
          exact H
        have rs2 : ∀ (d : Nat) (I : Nat → Nat → Int32) (J : Nat → Nat → Int64) (Q : List (Nat × Nat)), dR ≤ d → RPs I tp tl m Q o → Q.length ≤ m → ∃ I', RFr I I' ∧ RPs I' tp tl m1 (Q ++ (S1 ++ [(15, 0)])) o ∧ ∀ r, Ev X d 177 2 [.ref 177] [] (mk I' J) r → Ev X d 177 2 [.ref 177] [] (mk I J) r := by
          intro d I J Q hd h hq
          obtain ⟨I1, f1, s1, _, H1⟩ := rst d I J Q hd h
          obtain ⟨I2, e2, f2, s2⟩ := p6 d I1 J Q hd s1 (by omega)
          obtain ⟨t1, t2⟩ := RPs_l s2
          obtain ⟨I3, e3, f3, s3⟩ := r_lay0 (X := X) (d := d) (J := J) (op := 15) (v := nI 0) (x := 0) (by omega) s2 (by rw [List.length_append]; omega) (fun _ => rfl)
          rw [← List.append_assoc]
          exact ⟨I3, RFr_trans f1 (RFr_trans f2 f3), s3, fun r H => H1 I2 I3 r e2 e3 H⟩
        have ll : (segC (S1 ++ [(15, 0)])).length + m ≤ m1 := by
          rw [segC_app, show segC [(15, 0)] = [-(nI 268)] from rfl, List.length_append]; show _ + 1 + m ≤ m1; omega
        have ll2 := segC_l (S1 ++ [(15, 0)])
        rcases ih m1 (by omega) p1 with ⟨k, p, c1, c2⟩ | ⟨m', S, c1, c2, c3, c4, c5⟩
        · refine .inl ⟨k, p, fun d I J W i hd h hw hi => ?_, fun d I J Q hd h hq => ?_⟩
          · obtain ⟨I1, i1, f1, s1, q1, H1⟩ := cs2 d I J W i hd h hw hi
            obtain ⟨I2, f2, H2⟩ := c1 d I1 J _ i1 hd s1 (by rw [List.length_append]; omega) q1
            exact ⟨I2, CGl_after f1 f2, H1 _ H2⟩
          · obtain ⟨I1, f1, s1, H1⟩ := rs2 d I J Q hd h hq
            obtain ⟨I2, f2, H2⟩ := c2 d I1 J _ hd s1 (by rw [List.length_append]; omega)
            exact ⟨I2, RFl_after f1 f2, H1 _ H2⟩
        · refine .inr ⟨m', (S1 ++ [(15, 0)]) ++ S, c1, ?_, fun K hK => ?_, fun d I J W i hd h hw hi => ?_, fun d I J Q hd h hq => ?_⟩
          · rw [segC_app, List.length_append]; omega
          · rw [List.append_assoc, ak_then (p4 (true :: K) (by rw [List.length_cons]; omega)), List.cons_append, List.nil_append, ak_c (K' := true :: K) rfl]
            exact c3 K hK
          · obtain ⟨I1, i1, f1, s1, q1, H1⟩ := cs2 d I J W i hd h hw hi
            obtain ⟨I2, f2, s2, H2⟩ := c4 d I1 J _ i1 hd s1 (by rw [List.length_append]; omega) q1
            rw [List.append_assoc, ← segC_app] at s2
            exact ⟨I2, CFr_trans f1 f2, s2, H1 _ H2⟩
          · obtain ⟨I1, f1, s1, H1⟩ := rs2 d I J Q hd h hq
            obtain ⟨I2, f2, s2, H2⟩ := c5 d I1 J _ hd s1 (by rw [List.length_append]; omega)
            rw [List.append_assoc] at s2
            exact ⟨I2, RFr_trans f1 f2, s2, H1 _ H2⟩
    · exact base m h2 a
theorem any_ (hE : ∀ m, m ≤ tkT tp tl → Outc X dE 266 [.ref 124, .int (nI o)] dR 178 tp tl m o (h + 1) true) (e1 : 2 ≤ dE) (e2 : 15 ≤ dR) (ho : o ≤ 8) (h2 : m ≤ tkT tp tl) : Outc X (dE + 1) 60 [.ref 124, .int (nI o)] (dR + 1) 177 tp tl m o h true := by
  rcases hE m h2 with ⟨k, p, c1, c2⟩ | ⟨m1, S1, p1, p2, p3, p4, p5, p6⟩
  · refine .inl ⟨k, p, fun d I J W hd h hw => ?_, fun d I J Q hd h hq => ?_⟩
    · obtain ⟨d, rfl⟩ : ∃ d', d = d' + 1 := ⟨d - 1, by omega⟩
      obtain ⟨I2, e2, f2⟩ := c1 d I J W (by omega) h hw
      refine ⟨I2, ?_, f2⟩
      refine callF_of (by decide) (Nat.le_of_ble_eq_true rfl) ?_
      show Ev X d 60 0 [.ref 124, .int (nI o), .retAddr 0, .retAddr 0] [] ( mk I J) _
      simp (disch := first | omega | assumption | exact rfl) only [U_60_0, U_60_1, U_60_2, U_60_5, XX, QQ, WW, KK, QX, SHs, RRs, Nat.reduceAdd, Nat.reduceMul, Nat.reduceLeDiff, Nat.reduceEqDiff, List.length_cons, List.length_nil, decide_true, decide_false, Bool.true_and, Bool.and_true, Bool.false_and, Bool.and_false, false_and, and_false, Bool.false_eq_true, Bool.true_eq_false, reduceCtorEq, eq_self, if_true, if_false, true_and, and_true, not_true_eq_false, not_false_eq_true, if_pos, if_neg, z_ite_not, false_or, or_false, true_or, or_true, SWs, swk_0, swk_1, e2]
    · obtain ⟨d, rfl⟩ : ∃ d', d = d' + 1 := ⟨d - 1, by omega⟩
      obtain ⟨I2, e2, f2⟩ := c2 d I J Q (by omega) h hq
      refine ⟨I2, ?_, f2⟩
      refine callF_of (by decide) (Nat.le_of_ble_eq_true rfl) ?_
      show Ev X d 177 0 [.ref 177] [] ( mk I J) _
      simp (disch := first | omega | assumption | exact rfl) only [U_177_0, U_177_1, XX, QQ, WW, KK, QX, SHs, RRs, Nat.reduceAdd, Nat.reduceMul, Nat.reduceLeDiff, Nat.reduceEqDiff, List.length_cons, List.length_nil, decide_true, decide_false, Bool.true_and, Bool.and_true, Bool.false_and, Bool.and_false, false_and, and_false, Bool.false_eq_true, Bool.true_eq_false, reduceCtorEq, eq_self, if_true, if_false, true_and, and_true, not_true_eq_false, not_false_eq_true, if_pos, if_neg, z_ite_not, false_or, or_false, true_or, or_true, SWs, swk_0, swk_1, e2]
  · have cl := segC_l S1
    have cst : ∀ (d : Nat) (I : Nat → Nat → Int32) (J : Nat → Nat → Int64) (W : List Int32), dE ≤ d → CPs I tp tl m W → W.length ≤ m → ∃ I', CFr I I' ∧ CPs I' tp tl m1 (W ++ segC S1) ∧ ∀ r, Ev X d 60 1 [.ref 124, .int (nI o), .int (nI 1), .int (nI 0)] [] (mk I' J) r → callF X (d + 1) 60 [.ref 124, .int (nI o)] (mk I J) = some r := by
      intro d I J W hd h hw
      obtain ⟨I2, e2, f2, s2⟩ := p5 d I J W hd h hw
      refine ⟨I2, f2, s2, fun r H => ?_⟩
      refine callF_of (by decide) (Nat.le_of_ble_eq_true rfl) ?_
      show Ev X d 60 0 [.ref 124, .int (nI o), .retAddr 0, .retAddr 0] [] ( mk I J) _
      simp (disch := first | omega | assumption | exact rfl) only [U_60_0, XX, QQ, WW, KK, QX, SHs, RRs, Nat.reduceAdd, Nat.reduceMul, Nat.reduceLeDiff, Nat.reduceEqDiff, List.length_cons, List.length_nil, decide_true, decide_false, Bool.true_and, Bool.and_true, Bool.false_and, Bool.and_false, false_and, and_false, Bool.false_eq_true, Bool.true_eq_false, reduceCtorEq, eq_self, if_true, if_false, true_and, and_true, not_true_eq_false, not_false_eq_true, if_pos, if_neg, z_ite_not, false_or, or_false, true_or, or_true, SWs, swk_0, swk_1, e2]
      exact H
    have rst : ∀ (d : Nat) (I : Nat → Nat → Int32) (J : Nat → Nat → Int64) (Q : List (Nat × Nat)), dR ≤ d → RPs I tp tl m Q o → Q.length ≤ m → ∃ I', RFr I I' ∧ RPs I' tp tl m1 (Q ++ S1) o ∧ ∀ r, Ev X d 177 2 [.ref 177] [] (mk I' J) r → callF X (d + 1) 177 [.ref 177] (mk I J) = some r := by
      intro d I J Q hd h hq
      obtain ⟨I2, e2, f2, s2⟩ := p6 d I J Q hd h hq
      refine ⟨I2, f2, s2, fun r H => ?_⟩
      refine callF_of (by decide) (Nat.le_of_ble_eq_true rfl) ?_
      show Ev X d 177 0 [.ref 177] [] ( mk I J) _
      simp (disch := first | omega | assumption | exact rfl) only [U_177_0, XX, QQ, WW, KK, QX, SHs, RRs, Nat.reduceAdd, Nat.reduceMul, Nat.reduceLeDiff, Nat.reduceEqDiff, List.length_cons, List.length_nil, decide_true, decide_false, Bool.true_and, Bool.and_true, Bool.false_and, Bool.and_false, false_and, and_false, Bool.false_eq_true, Bool.true_eq_false, reduceCtorEq, eq_self, if_true, if_false, true_and, and_true, not_true_eq_false, not_false_eq_true, if_pos, if_neg, z_ite_not, false_or, or_false, true_or, or_true, SWs, swk_0, swk_1, e2]
      exact H
    rcases any_T (X := X) (tp := tp) (tl := tl) hE e1 e2 ho (tkT tp tl) m1 (by omega) p1 with ⟨k, p, c1, c2⟩ | ⟨m', S, c1, c2, c3, c4, c5⟩
    · refine .inl ⟨k, p, fun d I J W hd h hw => ?_, fun d I J Q hd h hq => ?_⟩
      · obtain ⟨d, rfl⟩ : ∃ d', d = d' + 1 := ⟨d - 1, by omega⟩
        obtain ⟨I1, f1, s1, H1⟩ := cst d I J W (by omega) h hw
        obtain ⟨I2, f2, H2⟩ := c1 d I1 J _ 0 (by omega) s1 (by rw [List.length_append]; omega) (by omega)
        exact ⟨I2, H1 _ H2, CGl_after f1 f2⟩
      · obtain ⟨d, rfl⟩ : ∃ d', d = d' + 1 := ⟨d - 1, by omega⟩
        obtain ⟨I1, f1, s1, H1⟩ := rst d I J Q (by omega) h hq
        obtain ⟨I2, f2, H2⟩ := c2 d I1 J _ (by omega) s1 (by rw [List.length_append]; omega)
        exact ⟨I2, H1 _ H2, RFl_after f1 f2⟩
    · refine .inr ⟨m', S1 ++ S, c1, by omega, ?_, fun K hK => ?_, fun d I J W hd h hw => ?_, fun d I J Q hd h hq => ?_⟩
      · rw [segC_app, List.length_append]; omega
      · rw [ak_then (p4 K (by omega))]; exact c3 K hK
      · obtain ⟨d, rfl⟩ : ∃ d', d = d' + 1 := ⟨d - 1, by omega⟩
        obtain ⟨I1, f1, s1, H1⟩ := cst d I J W (by omega) h hw
        obtain ⟨I2, f2, s2, H2⟩ := c4 d I1 J _ 0 (by omega) s1 (by rw [List.length_append]; omega) (by omega)
        rw [List.append_assoc, ← segC_app] at s2
        exact ⟨I2, H1 _ H2, CFr_trans f1 f2, s2⟩
      · obtain ⟨d, rfl⟩ : ∃ d', d = d' + 1 := ⟨d - 1, by omega⟩
        obtain ⟨I1, f1, s1, H1⟩ := rst d I J Q (by omega) h hq
        obtain ⟨I2, f2, s2, H2⟩ := c5 d I1 J _ (by omega) s1 (by rw [List.length_append]; omega)
        rw [List.append_assoc] at s2
        exact ⟨I2, H1 _ H2, RFr_trans f1 f2, s2⟩
end JOI
