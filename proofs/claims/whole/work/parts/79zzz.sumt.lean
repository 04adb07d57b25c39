/-! ===== a sum, to its end ===== -/
section SMT
variable {X : Nat × (Nat → Int32)} {tp : Nat → Nat} {tl m : Nat}
def CsT (X : Nat × (Nat → Int32)) (tp : Nat → Nat) (tl m m2 : Nat) (S0 : List (Nat × Nat)) : Prop := ∀ (d : Nat) (I : Nat → Nat → Int32) (J : Nat → Nat → Int64) (W : List Int32) (wt : Int32) (i : Nat), 2 ≤ d → CPs I tp tl m W → W.length ≤ m → i ≤ m → ∃ I', CFr I I' ∧ CPs I' tp tl m2 (W ++ segC S0) ∧ Ev X d 63 14 [.ref 124, .int wt, .int (nI (psK tp tl m)), .int (nI i)] [] (mk I J) (some (.int (nI 1)), mk I' J)
def CsF (X : Nat × (Nat → Int32)) (tp : Nat → Nat) (tl m k p : Nat) : Prop := ∀ (d : Nat) (I : Nat → Nat → Int32) (J : Nat → Nat → Int64) (W : List Int32) (wt : Int32) (i : Nat), 2 ≤ d → CPs I tp tl m W → W.length ≤ m → i ≤ m → ∃ I', CGl I I' k p ∧ Ev X d 63 14 [.ref 124, .int wt, .int (nI (psK tp tl m)), .int (nI i)] [] (mk I J) (some (.int (nI 0)), mk I' J)
def RsT (X : Nat × (Nat → Int32)) (tp : Nat → Nat) (tl m o m2 : Nat) (S0 : List (Nat × Nat)) : Prop := ∀ (d : Nat) (I : Nat → Nat → Int32) (J : Nat → Nat → Int64) (Q : List (Nat × Nat)) (u : Value), 16 ≤ d → RPs I tp tl m Q o → Q.length ≤ m → ∃ I', RFr I I' ∧ RPs I' tp tl m2 (Q ++ S0) o ∧ Ev X d 174 2 [.ref 177, u] [] (mk I J) (some (.int (nI 1)), mk I' J)
def RsF (X : Nat × (Nat → Int32)) (tp : Nat → Nat) (tl m o k p : Nat) : Prop := ∀ (d : Nat) (I : Nat → Nat → Int32) (J : Nat → Nat → Int64) (Q : List (Nat × Nat)) (u : Value), 16 ≤ d → RPs I tp tl m Q o → Q.length ≤ m → ∃ I', RFl I I' k p ∧ Ev X d 174 2 [.ref 177, u] [] (mk I J) (some (.int (nI 0)), mk I' J)
theorem sumT (o : Nat) : ∀ n m, tkT tp tl ≤ m + n → m ≤ tkT tp tl → (∃ k p, CsF X tp tl m k p ∧ RsF X tp tl m o k p) ∨ ∃ m' S, m' ≤ tkT tp tl ∧ (segC S).length + m ≤ m' ∧ (∀ K : List Bool, K.length ≤ 21 → ak S (false :: K) = some (false :: K)) ∧ CsT X tp tl m m' S ∧ RsT X tp tl m o m' S := by
  have base : ∀ m, m ≤ tkT tp tl → psK tp tl m ≠ 43 → psK tp tl m ≠ 45 → (∃ k p, CsF X tp tl m k p ∧ RsF X tp tl m o k p) ∨ ∃ m' S, m' ≤ tkT tp tl ∧ (segC S).length + m ≤ m' ∧ (∀ K : List Bool, K.length ≤ 21 → ak S (false :: K) = some (false :: K)) ∧ CsT X tp tl m m' S ∧ RsT X tp tl m o m' S := by
    intro m hm a b
    have kb := psK_b (tp := tp) (tl := tl) (m := m)
    refine .inr ⟨m, [], hm, by show 0 + m ≤ m; omega, fun K _ => rfl, fun d I J W wt i hd h hw hi => ?_, fun d I J Q u hd h hq => ?_⟩
    · refine ⟨I, CFr_refl I, by rw [segC, List.append_nil]; exact h, ?_⟩
      simp (disch := first | omega | assumption | exact rfl) only [U_63_14, U_63_15, U_63_16, XX, QQ, WW, KK, QX, SHs, RRs, Nat.reduceAdd, Nat.reduceMul, Nat.reduceLeDiff, Nat.reduceEqDiff, List.length_cons, List.length_nil, decide_true, decide_false, Bool.true_and, Bool.and_true, Bool.false_and, Bool.and_false, false_and, and_false, Bool.false_eq_true, Bool.true_eq_false, reduceCtorEq, eq_self, if_true, if_false, true_and, and_true, not_true_eq_false, not_false_eq_true, if_pos, if_neg, z_ite_not, false_or, or_false, true_or, or_true, SWs, swk_0, swk_1, a, b]
    · obtain ⟨k5, k6, k7⟩ := RPs_k h
      obtain ⟨g1, g2, g3, g4, g5⟩ := rq_1 _ kb
      have g6 := (rq_4 _ kb).2.2.2.2
      have z1 : ¬ rtk false (psK tp tl m) = 143 := fun z => a (g1.mp z)
      have z2 : ¬ rtk false (psK tp tl m) = 145 := fun z => b (g2.mp z)
      refine ⟨I, RFr_refl I, by rw [List.append_nil]; exact h, ?_⟩
      rw [U_174_2]
      simp (disch := first | omega | assumption | exact rfl) only [U_174_3, U_174_10, XX, QQ, WW, KK, QX, SHs, RRs, Nat.reduceAdd, Nat.reduceMul, Nat.reduceLeDiff, Nat.reduceEqDiff, List.length_cons, List.length_nil, decide_true, decide_false, Bool.true_and, Bool.and_true, Bool.false_and, Bool.and_false, false_and, and_false, Bool.false_eq_true, Bool.true_eq_false, reduceCtorEq, eq_self, if_true, if_false, true_and, and_true, not_true_eq_false, not_false_eq_true, if_pos, if_neg, z_ite_not, false_or, or_false, true_or, or_true, SWs, swk_0, swk_1, k5, z1, z2]
  intro n
  induction n with
  | zero =>
    intro m h1 h2
    have e : m = tkT tp tl := by omega
    have k0 : psK tp tl m = 0 := by rw [e]; exact psK_T
    exact base m h2 (by omega) (by omega)
  | succ n ih =>
    intro m h1 h2
    by_cases ab : psK tp tl m = 43 ∨ psK tp tl m = 45
    · have hm := psK_lt h2 (by omega)
      obtain ⟨c, ec⟩ : ∃ c, c = psK tp tl m := ⟨_, rfl⟩
      rw [← ec] at ab
      obtain ⟨op, eop⟩ : ∃ op, op = if c = 43 then 6 else 7 := ⟨_, rfl⟩
      have oc : (c = 43 ∧ op = 6) ∨ (c = 45 ∧ op = 7) := by
        rcases ab with q | q
        · left; exact ⟨q, by rw [eop, if_pos q]⟩
        · right; exact ⟨q, by rw [eop, if_neg (by omega)]⟩
      have sop : segC [(op, 0)] = [-(nI c)] := by
        rcases oc with ⟨rfl, rfl⟩ | ⟨rfl, rfl⟩ <;> rfl
      -- the class steps to the next product
      have cst : ∀ (d : Nat) (I : Nat → Nat → Int32) (J : Nat → Nat → Int64) (W : List Int32) (wt : Int32) (i : Nat), 2 ≤ d → CPs I tp tl m W → W.length ≤ m → i ≤ m → ∃ I', CFr I I' ∧ CPs I' tp tl (m + 1) W ∧ ∀ r, Ev X d 63 2 [.ref 124, .int (nI c), .int (nI c), .int (nI (i + 1))] [] (mk I' J) r → Ev X d 63 14 [.ref 124, .int wt, .int (nI c), .int (nI i)] [] (mk I J) r := by
        intro d I J W wt i hd h hw hi
        obtain ⟨t1, t2⟩ := T400 h
        obtain ⟨I1, e1, f1, s1⟩ := c_nx (X := X) (d := d) (J := J) (by omega) h hm
        have z1 : i + 1 ≤ 400 := by omega
        refine ⟨I1, f1, s1, fun r H => ?_⟩
        rcases oc with ⟨rfl, rfl⟩ | ⟨rfl, rfl⟩
        · simp (disch := first | omega | assumption | exact rfl) only [U_63_14, U_63_17, U_63_18, U_63_1, XX, QQ, WW, KK, QX, SHs, RRs, Nat.reduceAdd, Nat.reduceMul, Nat.reduceLeDiff, Nat.reduceEqDiff, List.length_cons, List.length_nil, decide_true, decide_false, Bool.true_and, Bool.and_true, Bool.false_and, Bool.and_false, false_and, and_false, Bool.false_eq_true, Bool.true_eq_false, reduceCtorEq, eq_self, if_true, if_false, true_and, and_true, not_true_eq_false, not_false_eq_true, if_pos, if_neg, z_ite_not, false_or, or_false, true_or, or_true, SWs, swk_0, swk_1, e1]
          exact H
        · simp (disch := first | omega | assumption | exact rfl) only [U_63_14, U_63_15, U_63_17, U_63_18, U_63_1, XX, QQ, WW, KK, QX, SHs, RRs, Nat.reduceAdd, Nat.reduceMul, Nat.reduceLeDiff, Nat.reduceEqDiff, List.length_cons, List.length_nil, decide_true, decide_false, Bool.true_and, Bool.and_true, Bool.false_and, Bool.and_false, false_and, and_false, Bool.false_eq_true, Bool.true_eq_false, reduceCtorEq, eq_self, if_true, if_false, true_and, and_true, not_true_eq_false, not_false_eq_true, if_pos, if_neg, z_ite_not, false_or, or_false, true_or, or_true, SWs, swk_0, swk_1, e1]
          exact H
      have rst : ∀ (d : Nat) (I : Nat → Nat → Int32) (J : Nat → Nat → Int64) (Q : List (Nat × Nat)) (u : Value), 16 ≤ d → RPs I tp tl m Q o → ∃ I', RFr I I' ∧ RPs I' tp tl (m + 1) Q o ∧ (∀ I2, callF X d 175 [.ref 177] (mk I' J) = some (some (.int (nI 0)), mk I2 J) → Ev X d 174 2 [.ref 177, u] [] (mk I J) (some (.int (nI 0)), mk I2 J)) ∧ ∀ I2 I3 r, callF X d 175 [.ref 177] (mk I' J) = some (some (.int (nI 1)), mk I2 J) → callF X d 172 [.ref 177, .int (nI op), .int (nI 0)] (mk I2 J) = some (none, mk I3 J) → Ev X d 174 2 [.ref 177, .int (nI op)] [] (mk I3 J) r → Ev X d 174 2 [.ref 177, u] [] (mk I J) r := by
        intro d I J Q u hd h
        obtain ⟨k5, k6, k7⟩ := RPs_k h
        obtain ⟨I1, e1, f1, s1⟩ := r_nx (X := X) (d := d) (J := J) (by omega) h hm
        rw [← ec] at k5
        refine ⟨I1, f1, s1, fun I2 e2 => ?_, fun I2 I3 r e2 e3 H => ?_⟩
        · rcases oc with ⟨rfl, rfl⟩ | ⟨rfl, rfl⟩
          · have k9 : I 177 14 = nI 143 := k5
            rw [U_174_2]
            simp (disch := first | omega | assumption | exact rfl) only [U_174_4, U_174_5, U_174_7, U_174_8, XX, QQ, WW, KK, QX, SHs, RRs, Nat.reduceAdd, Nat.reduceMul, Nat.reduceLeDiff, Nat.reduceEqDiff, List.length_cons, List.length_nil, decide_true, decide_false, Bool.true_and, Bool.and_true, Bool.false_and, Bool.and_false, false_and, and_false, Bool.false_eq_true, Bool.true_eq_false, reduceCtorEq, eq_self, if_true, if_false, true_and, and_true, not_true_eq_false, not_false_eq_true, if_pos, if_neg, z_ite_not, false_or, or_false, true_or, or_true, SWs, swk_0, swk_1, k9, e1, e2]
          · have k9 : I 177 14 = nI 145 := k5
            rw [U_174_2]
            simp (disch := first | omega | assumption | exact rfl) only [U_174_3, U_174_4, U_174_6, U_174_7, U_174_8, XX, QQ, WW, KK, QX, SHs, RRs, Nat.reduceAdd, Nat.reduceMul, Nat.reduceLeDiff, Nat.reduceEqDiff, List.length_cons, List.length_nil, decide_true, decide_false, Bool.true_and, Bool.and_true, Bool.false_and, Bool.and_false, false_and, and_false, Bool.false_eq_true, Bool.true_eq_false, reduceCtorEq, eq_self, if_true, if_false, true_and, and_true, not_true_eq_false, not_false_eq_true, if_pos, if_neg, z_ite_not, false_or, or_false, true_or, or_true, SWs, swk_0, swk_1, k9, e1, e2]
        · rcases oc with ⟨rfl, rfl⟩ | ⟨rfl, rfl⟩
          · have k9 : I 177 14 = nI 143 := k5
            rw [U_174_2]
            simp (disch := first | omega | assumption | exact rfl) only [U_174_4, U_174_5, U_174_7, U_174_9, XX, QQ, WW, KK, QX, SHs, RRs, Nat.reduceAdd, Nat.reduceMul, Nat.reduceLeDiff, Nat.reduceEqDiff, List.length_cons, List.length_nil, decide_true, decide_false, Bool.true_and, Bool.and_true, Bool.false_and, Bool.and_false, false_and, and_false, Bool.false_eq_true, Bool.true_eq_false, reduceCtorEq, eq_self, if_true, if_false, true_and, and_true, not_true_eq_false, not_false_eq_true, if_pos, if_neg, z_ite_not, false_or, or_false, true_or, or_true, SWs, swk_0, swk_1, k9, e1, e2, e3]
            exact H
          · have k9 : I 177 14 = nI 145 := k5
            rw [U_174_2]
            simp (disch := first | omega | assumption | exact rfl) only [U_174_3, U_174_4, U_174_6, U_174_7, U_174_9, XX, QQ, WW, KK, QX, SHs, RRs, Nat.reduceAdd, Nat.reduceMul, Nat.reduceLeDiff, Nat.reduceEqDiff, List.length_cons, List.length_nil, decide_true, decide_false, Bool.true_and, Bool.and_true, Bool.false_and, Bool.and_false, false_and, and_false, Bool.false_eq_true, Bool.true_eq_false, reduceCtorEq, eq_self, if_true, if_false, true_and, and_true, not_true_eq_false, not_false_eq_true, if_pos, if_neg, z_ite_not, false_or, or_false, true_or, or_true, SWs, swk_0, swk_1, k9, e1, e2, e3]
            exact H
      rcases prodA (X := X) (tp := tp) (tl := tl) (m := m + 1) o (by omega) with ⟨k, p, c1, c2⟩ | ⟨m1, S1, p1, p2, p3, p4, p5, p6⟩
      · refine .inl ⟨k, p, fun d I J W wt i hd h hw hi => ?_, fun d I J Q u hd h hq => ?_⟩
        · obtain ⟨I1, f1, s1, H1⟩ := cst d I J W wt i hd h hw hi
          obtain ⟨I2, f2, H2⟩ := c1 d I1 J W (nI c) c (i + 1) hd (by omega) s1 (by omega) (by omega)
          rw [← ec]
          exact ⟨I2, CGl_after f1 f2, H1 _ H2⟩
        · obtain ⟨I1, f1, s1, H1, _⟩ := rst d I J Q u hd h
          obtain ⟨I2, e2, f2⟩ := c2 d I1 J Q (by omega) s1 (by omega)
          exact ⟨I2, RFl_after f1 f2, H1 _ e2⟩
      · have cl := segC_l S1
        -- one more product is read, and its sign written
        have cs2 : ∀ (d : Nat) (I : Nat → Nat → Int32) (J : Nat → Nat → Int64) (W : List Int32) (wt : Int32) (i : Nat), 2 ≤ d → CPs I tp tl m W → W.length ≤ m → i ≤ m → ∃ I' i', CFr I I' ∧ CPs I' tp tl m1 (W ++ segC (S1 ++ [(op, 0)])) ∧ i' ≤ m1 ∧ ∀ r, Ev X d 63 14 [.ref 124, .int (nI c), .int (nI (psK tp tl m1)), .int (nI i')] [] (mk I' J) r → Ev X d 63 14 [.ref 124, .int wt, .int (nI c), .int (nI i)] [] (mk I J) r := by
          intro d I J W wt i hd h hw hi
          obtain ⟨I1, f1, s1, H1⟩ := cst d I J W wt i hd h hw hi
          obtain ⟨I2, i2, f2, s2, q2, H2⟩ := p5 d I1 J W (nI c) c (i + 1) hd (by omega) s1 (by omega) (by omega)
          obtain ⟨t1, t2⟩ := T400 s2
          obtain ⟨I3, e3, f3, s3⟩ := c_wr (X := X) (d := d) (J := J) (x := -(nI c)) (by omega) s2 (by rw [List.length_append]; omega)
          have c0 : ¬ c = 0 := by omega
          have c9 : c < 100 := by omega
          rw [segC_app, sop, ← List.append_assoc]
          refine ⟨I3, i2, CFr_trans f1 (CFr_trans f2 f3), s3, q2, fun r H => H1 r (H2 r ?_)⟩
          simp (disch := first | omega | assumption | exact rfl) only [U_63_12, U_63_13, XX, QQ, WW, KK, QX, SHs, RRs, Nat.reduceAdd, Nat.reduceMul, Nat.reduceLeDiff, Nat.reduceEqDiff, List.length_cons, List.length_nil, decide_true, decide_false, Bool.true_and, Bool.and_true, Bool.false_and, Bool.and_false, false_and, and_false, Bool.false_eq_true, Bool.true_eq_false, reduceCtorEq, eq_self, if_true, if_false, true_and, and_true, not_true_eq_false, not_false_eq_true, if_pos, if_neg, z_ite_not, false_or, or_false, true_or, or_true, SWs, swk_0, swk_1, c0, e3]
          exact H
        have rs2 : ∀ (d : Nat) (I : Nat → Nat → Int32) (J : Nat → Nat → Int64) (Q : List (Nat × Nat)) (u : Value), 16 ≤ d → RPs I tp tl m Q o → Q.length ≤ m → ∃ I' u', RFr I I' ∧ RPs I' tp tl m1 (Q ++ (S1 ++ [(op, 0)])) o ∧ ∀ r, Ev X d 174 2 [.ref 177, u'] [] (mk I' J) r → Ev X d 174 2 [.ref 177, u] [] (mk I J) r := by
          intro d I J Q u hd h hq
          obtain ⟨I1, f1, s1, _, H1⟩ := rst d I J Q u hd h
          obtain ⟨I2, e2, f2, s2⟩ := p6 d I1 J Q (by omega) s1 (by omega)
          obtain ⟨t1, t2⟩ := RPs_l s2
          obtain ⟨I3, e3, f3, s3⟩ := r_lay0 (X := X) (d := d) (J := J) (op := op) (v := nI 0) (x := 0) (by omega) s2 (by rw [List.length_append]; omega) (fun _ => rfl)
          rw [← List.append_assoc]
          exact ⟨I3, _, RFr_trans f1 (RFr_trans f2 f3), s3, fun r H => H1 I2 I3 r e2 e3 H⟩
        have ll : (segC (S1 ++ [(op, 0)])).length + m ≤ m1 := by
          rw [segC_app, sop, List.length_append]; show _ + 1 + m ≤ m1; omega
        have ll2 := segC_l (S1 ++ [(op, 0)])
        rcases ih m1 (by omega) p1 with ⟨k, p, c1, c2⟩ | ⟨m', S, c1, c2, c3, c4, c5⟩
        · refine .inl ⟨k, p, fun d I J W wt i hd h hw hi => ?_, fun d I J Q u hd h hq => ?_⟩
          · obtain ⟨I1, i1, f1, s1, q1, H1⟩ := cs2 d I J W wt i hd h hw hi
            obtain ⟨I2, f2, H2⟩ := c1 d I1 J _ (nI c) i1 hd s1 (by rw [List.length_append]; omega) q1
            rw [← ec]
            exact ⟨I2, CGl_after f1 f2, H1 _ H2⟩
          · obtain ⟨I1, u1, f1, s1, H1⟩ := rs2 d I J Q u hd h hq
            obtain ⟨I2, f2, H2⟩ := c2 d I1 J _ u1 hd s1 (by rw [List.length_append]; omega)
            exact ⟨I2, RFl_after f1 f2, H1 _ H2⟩
        · refine .inr ⟨m', (S1 ++ [(op, 0)]) ++ S, c1, ?_, fun K hK => ?_, fun d I J W wt i hd h hw hi => ?_, fun d I J Q u hd h hq => ?_⟩
          · rw [segC_app, List.length_append]; omega
          · rw [List.append_assoc, ak_then (p4 (false :: K) (by rw [List.length_cons]; omega)), List.cons_append, List.nil_append]
            have e1 : ak1 (op, 0) (false :: false :: K) = some (false :: K) := by
              rcases oc with ⟨_, rfl⟩ | ⟨_, rfl⟩ <;> rfl
            rw [ak_c e1]
            exact c3 K hK
          · obtain ⟨I1, i1, f1, s1, q1, H1⟩ := cs2 d I J W wt i hd h hw hi
            obtain ⟨I2, f2, s2, H2⟩ := c4 d I1 J _ (nI c) i1 hd s1 (by rw [List.length_append]; omega) q1
            rw [List.append_assoc, ← segC_app] at s2
            rw [← ec]
            exact ⟨I2, CFr_trans f1 f2, s2, H1 _ H2⟩
          · obtain ⟨I1, u1, f1, s1, H1⟩ := rs2 d I J Q u hd h hq
            obtain ⟨I2, f2, s2, H2⟩ := c5 d I1 J _ u1 hd s1 (by rw [List.length_append]; omega)
            rw [List.append_assoc] at s2
            exact ⟨I2, RFr_trans f1 f2, s2, H1 _ H2⟩
    · exact base m h2 (fun z => ab (.inl z)) (fun z => ab (.inr z))
theorem sumA (o : Nat) (h2 : m ≤ tkT tp tl) : Outc X 3 63 [.ref 124] 17 174 tp tl m o 21 false := by
  rcases prodA (X := X) (tp := tp) (tl := tl) (m := m) o h2 with ⟨k, p, c1, c2⟩ | ⟨m1, S1, p1, p2, p3, p4, p5, p6⟩
  · refine .inl ⟨k, p, fun d I J W hd h hw => ?_, fun d I J Q hd h hq => ?_⟩
    · obtain ⟨d, rfl⟩ : ∃ d', d = d' + 1 := ⟨d - 1, by omega⟩
      obtain ⟨I2, f2, H2⟩ := c1 d I J W (nI 0) 0 0 (by omega) (.inl rfl) h hw (by omega)
      refine ⟨I2, ?_, f2⟩
      refine callF_of (by decide) (Nat.le_of_ble_eq_true rfl) ?_
      show Ev X d 63 0 [.ref 124, .retAddr 0, .retAddr 0, .retAddr 0] [] ( mk I J) _
      simp (disch := first | omega | assumption | exact rfl) only [U_63_0, U_63_1, XX, QQ, WW, KK, QX, SHs, RRs, Nat.reduceAdd, Nat.reduceMul, Nat.reduceLeDiff, Nat.reduceEqDiff, List.length_cons, List.length_nil, decide_true, decide_false, Bool.true_and, Bool.and_true, Bool.false_and, Bool.and_false, false_and, and_false, Bool.false_eq_true, Bool.true_eq_false, reduceCtorEq, eq_self, if_true, if_false, true_and, and_true, not_true_eq_false, not_false_eq_true, if_pos, if_neg, z_ite_not, false_or, or_false, true_or, or_true, SWs, swk_0, swk_1]
      exact H2
    · obtain ⟨d, rfl⟩ : ∃ d', d = d' + 1 := ⟨d - 1, by omega⟩
      obtain ⟨I2, e2, f2⟩ := c2 d I J Q (by omega) h hq
      refine ⟨I2, ?_, f2⟩
      refine callF_of (by decide) (Nat.le_of_ble_eq_true rfl) ?_
      show Ev X d 174 0 [.ref 177, .retAddr 0] [] ( mk I J) _
      simp (disch := first | omega | assumption | exact rfl) only [U_174_0, U_174_1, XX, QQ, WW, KK, QX, SHs, RRs, Nat.reduceAdd, Nat.reduceMul, Nat.reduceLeDiff, Nat.reduceEqDiff, List.length_cons, List.length_nil, decide_true, decide_false, Bool.true_and, Bool.and_true, Bool.false_and, Bool.and_false, false_and, and_false, Bool.false_eq_true, Bool.true_eq_false, reduceCtorEq, eq_self, if_true, if_false, true_and, and_true, not_true_eq_false, not_false_eq_true, if_pos, if_neg, z_ite_not, false_or, or_false, true_or, or_true, SWs, swk_0, swk_1, e2]
  · have cl := segC_l S1
    have cst : ∀ (d : Nat) (I : Nat → Nat → Int32) (J : Nat → Nat → Int64) (W : List Int32), 2 ≤ d → CPs I tp tl m W → W.length ≤ m → ∃ I' i', CFr I I' ∧ CPs I' tp tl m1 (W ++ segC S1) ∧ i' ≤ m1 ∧ ∀ r, Ev X d 63 14 [.ref 124, .int (nI 0), .int (nI (psK tp tl m1)), .int (nI i')] [] (mk I' J) r → callF X (d + 1) 63 [.ref 124] (mk I J) = some r := by
      intro d I J W hd h hw
      obtain ⟨I2, i2, f2, s2, q2, H2⟩ := p5 d I J W (nI 0) 0 0 hd (.inl rfl) h hw (by omega)
      refine ⟨I2, i2, f2, s2, q2, fun r H => ?_⟩
      refine callF_of (by decide) (Nat.le_of_ble_eq_true rfl) ?_
      show Ev X d 63 0 [.ref 124, .retAddr 0, .retAddr 0, .retAddr 0] [] ( mk I J) _
      simp (disch := first | omega | assumption | exact rfl) only [U_63_0, U_63_1, XX, QQ, WW, KK, QX, SHs, RRs, Nat.reduceAdd, Nat.reduceMul, Nat.reduceLeDiff, Nat.reduceEqDiff, List.length_cons, List.length_nil, decide_true, decide_false, Bool.true_and, Bool.and_true, Bool.false_and, Bool.and_false, false_and, and_false, Bool.false_eq_true, Bool.true_eq_false, reduceCtorEq, eq_self, if_true, if_false, true_and, and_true, not_true_eq_false, not_false_eq_true, if_pos, if_neg, z_ite_not, false_or, or_false, true_or, or_true, SWs, swk_0, swk_1]
      refine H2 r ?_
      simp (disch := first | omega | assumption | exact rfl) only [U_63_12, XX, QQ, WW, KK, QX, SHs, RRs, Nat.reduceAdd, Nat.reduceMul, Nat.reduceLeDiff, Nat.reduceEqDiff, List.length_cons, List.length_nil, decide_true, decide_false, Bool.true_and, Bool.and_true, Bool.false_and, Bool.and_false, false_and, and_false, Bool.false_eq_true, Bool.true_eq_false, reduceCtorEq, eq_self, if_true, if_false, true_and, and_true, not_true_eq_false, not_false_eq_true, if_pos, if_neg, z_ite_not, false_or, or_false, true_or, or_true, SWs, swk_0, swk_1]
      exact H
    have rst : ∀ (d : Nat) (I : Nat → Nat → Int32) (J : Nat → Nat → Int64) (Q : List (Nat × Nat)), 16 ≤ d → RPs I tp tl m Q o → Q.length ≤ m → ∃ I', RFr I I' ∧ RPs I' tp tl m1 (Q ++ S1) o ∧ ∀ r, Ev X d 174 2 [.ref 177, .retAddr 0] [] (mk I' J) r → callF X (d + 1) 174 [.ref 177] (mk I J) = some r := by
      intro d I J Q hd h hq
      obtain ⟨I2, e2, f2, s2⟩ := p6 d I J Q hd h hq
      refine ⟨I2, f2, s2, fun r H => ?_⟩
      refine callF_of (by decide) (Nat.le_of_ble_eq_true rfl) ?_
      show Ev X d 174 0 [.ref 177, .retAddr 0] [] ( mk I J) _
      simp (disch := first | omega | assumption | exact rfl) only [U_174_0, XX, QQ, WW, KK, QX, SHs, RRs, Nat.reduceAdd, Nat.reduceMul, Nat.reduceLeDiff, Nat.reduceEqDiff, List.length_cons, List.length_nil, decide_true, decide_false, Bool.true_and, Bool.and_true, Bool.false_and, Bool.and_false, false_and, and_false, Bool.false_eq_true, Bool.true_eq_false, reduceCtorEq, eq_self, if_true, if_false, true_and, and_true, not_true_eq_false, not_false_eq_true, if_pos, if_neg, z_ite_not, false_or, or_false, true_or, or_true, SWs, swk_0, swk_1, e2]
      exact H
    rcases sumT (X := X) (tp := tp) (tl := tl) o (tkT tp tl) m1 (by omega) p1 with ⟨k, p, c1, c2⟩ | ⟨m', S, c1, c2, c3, c4, c5⟩
    · refine .inl ⟨k, p, fun d I J W hd h hw => ?_, fun d I J Q hd h hq => ?_⟩
      · obtain ⟨d, rfl⟩ : ∃ d', d = d' + 1 := ⟨d - 1, by omega⟩
        obtain ⟨I1, i1, f1, s1, q1, H1⟩ := cst d I J W (by omega) h hw
        obtain ⟨I2, f2, H2⟩ := c1 d I1 J _ (nI 0) i1 (by omega) s1 (by rw [List.length_append]; omega) q1
        exact ⟨I2, H1 _ H2, CGl_after f1 f2⟩
      · obtain ⟨d, rfl⟩ : ∃ d', d = d' + 1 := ⟨d - 1, by omega⟩
        obtain ⟨I1, f1, s1, H1⟩ := rst d I J Q (by omega) h hq
        obtain ⟨I2, f2, H2⟩ := c2 d I1 J _ (.retAddr 0) (by omega) s1 (by rw [List.length_append]; omega)
        exact ⟨I2, H1 _ H2, RFl_after f1 f2⟩
    · refine .inr ⟨m', S1 ++ S, c1, by omega, ?_, fun K hK => ?_, fun d I J W hd h hw => ?_, fun d I J Q hd h hq => ?_⟩
      · rw [segC_app, List.length_append]; omega
      · rw [ak_then (p4 K (by omega))]; exact c3 K hK
      · obtain ⟨d, rfl⟩ : ∃ d', d = d' + 1 := ⟨d - 1, by omega⟩
        obtain ⟨I1, i1, f1, s1, q1, H1⟩ := cst d I J W (by omega) h hw
        obtain ⟨I2, f2, s2, H2⟩ := c4 d I1 J _ (nI 0) i1 (by omega) s1 (by rw [List.length_append]; omega) q1
        rw [List.append_assoc, ← segC_app] at s2
        exact ⟨I2, H1 _ H2, CFr_trans f1 f2, s2⟩
      · obtain ⟨d, rfl⟩ : ∃ d', d = d' + 1 := ⟨d - 1, by omega⟩
        obtain ⟨I1, f1, s1, H1⟩ := rst d I J Q (by omega) h hq
        obtain ⟨I2, f2, s2, H2⟩ := c5 d I1 J _ (.retAddr 0) (by omega) s1 (by rw [List.length_append]; omega)
        rw [List.append_assoc] at s2
        exact ⟨I2, H1 _ H2, RFr_trans f1 f2, s2⟩
end SMT
