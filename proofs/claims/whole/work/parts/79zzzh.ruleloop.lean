/-! ===== all lines of a rule ===== -/
def RGq (I I' : Nat → Nat → Int32) : Prop := (∀ a, a ≠ 177 → a ≠ 180 → a ≠ 181 → I' a = I a) ∧ ∀ k, k < 10 ∨ k = 12 ∨ k = 17 ∨ k = 19 ∨ 20 < k → I' 177 k = I 177 k
def RGk (I I' : Nat → Nat → Int32) (kk p : Nat) : Prop := (∀ a, a ≠ 177 → a ≠ 180 → a ≠ 181 → I' a = I a) ∧ (∀ k, k < 10 ∨ k = 12 ∨ k = 19 ∨ 20 < k → I' 177 k = I 177 k) ∧ I' 177 17 = nI kk ∧ I' 177 18 = nI p
theorem RGq_q {I I' : Nat → Nat → Int32} (h : RFq I I') : RGq I I' := ⟨h.1, fun k hk => h.2 k (by omega) (by omega) (by omega) (by omega) (by omega) (by omega) (by omega)⟩
theorem RGk_k {I I' : Nat → Nat → Int32} {kk p : Nat} (h : RFk I I' kk p) : RGk I I' kk p := ⟨h.1, fun k hk => h.2.1 k (by omega) (by omega) (by omega) (by omega) (by omega) (by omega) (by omega) (by omega), h.2.2⟩
theorem RGq_t {I I' I'' : Nat → Nat → Int32} (h : RGq I I') (h2 : RGq I' I'') : RGq I I'' := ⟨fun a x y z => (h2.1 a x y z).trans (h.1 a x y z), fun k hk => (h2.2 k hk).trans (h.2 k hk)⟩
theorem RGk_t {I I' I'' : Nat → Nat → Int32} {kk p : Nat} (h : RGq I I') (h2 : RGk I' I'' kk p) : RGk I I'' kk p := ⟨fun a x y z => (h2.1 a x y z).trans (h.1 a x y z), fun k hk => (h2.2.1 k hk).trans (h.2 k (by omega)), h2.2.2⟩
theorem RGq_10 {I : Nat → Nat → Int32} {v : Int32} : RGq I (va_up I 177 (va_up (I 177) 10 v)) := ⟨fun a x _ _ => vu_ne x, fun k hk => by rw [vu_eq, vu_ne (by omega)]⟩
theorem RGk_10 {I I' : Nat → Nat → Int32} {kk p : Nat} {v : Int32} (h : RGk I I' kk p) : RGk I (va_up I' 177 (va_up (I' 177) 10 v)) kk p := ⟨fun a x y z => by rw [vu_ne x]; exact h.1 a x y z, fun k hk => by rw [vu_eq, vu_ne (by omega)]; exact h.2.1 k hk, by rw [vu_eq, vu_ne (by decide)]; exact h.2.2.1, by rw [vu_eq, vu_ne (by decide)]; exact h.2.2.2⟩
theorem RPs_10 {I : Nat → Nat → Int32} {tp : Nat → Nat} {tl m o : Nat} {Q : List (Nat × Nat)} {v : Int32} (h : RPs I tp tl m Q o) : RPs (va_up I 177 (va_up (I 177) 10 v)) tp tl m Q o := by
  obtain ⟨h1, ⟨w, w1, w2, w3⟩, h3, h4, h5, h6, h8⟩ := h
  have e : ∀ k, k ≠ 10 → va_up I 177 (va_up (I 177) 10 v) 177 k = I 177 k := fun k hk => by rw [vu_eq, vu_ne hk]
  refine ⟨⟨h1.1, ?_, fun i hi => ?_⟩, ⟨w, w1, w2, ?_⟩, ?_, h4, ?_, ?_, ?_⟩
  · rw [e _ (by decide)]; exact h1.2.1
  · rw [vu_ne (by decide)]; exact h1.2.2 i hi
  · rw [e _ (by decide)]; exact w3
  · unfold RCur; rw [e 13 (by decide), e 14 (by decide), e 15 (by decide), e 16 (by decide)]; exact h3
  · rw [e _ (by decide)]; exact h5
  · rw [vu_ne (by decide)]; exact h6
  · rw [e _ (by decide)]; exact h8
section RLP
variable {X : Nat × (Nat → Int32)} {tp : Nat → Nat} {tl : Nat}
abbrev LnL := List (Nat × Nat × List (Nat × Nat))
def CRf (X : Nat × (Nat → Int32)) (tp : Nat → Nat) (tl m L k p : Nat) : Prop := ∀ (d : Nat) (I : Nat → Nat → Int32) (J : Nat → Nat → Int64) (D : LnL) (u : Value) (v : Int32), 41 ≤ d → D.length = L → CPs I tp tl m (segC (fltS D)) → (segC (fltS D)).length ≤ m → CDr I D → ∃ I', CFl I I' k p ∧ Ev X d 58 1 [.ref 124, u, .int v, .int (nI L)] [] (mk I J) (some (.int (nI 0)), mk I' J)
def CRt (X : Nat × (Nat → Int32)) (tp : Nat → Nat) (tl m L m' : Nat) (E : LnL) : Prop := ∀ (d : Nat) (I : Nat → Nat → Int32) (J : Nat → Nat → Int64) (D : LnL) (u : Value) (v : Int32), 41 ≤ d → D.length = L → CPs I tp tl m (segC (fltS D)) → (segC (fltS D)).length ≤ m → CDr I D → ∃ I', CFq I I' ∧ CPs I' tp tl m' (segC (fltS (D ++ E))) ∧ CDr I' (D ++ E) ∧ Ev X d 58 1 [.ref 124, u, .int v, .int (nI L)] [] (mk I J) (some (.int (nI 1)), mk I' J)
def RRf (X : Nat × (Nat → Int32)) (tp : Nat → Nat) (tl m L k p : Nat) : Prop := ∀ (d : Nat) (I : Nat → Nat → Int32) (J : Nat → Nat → Int64) (D : LnL) (o w : Nat), 47 ≤ d → 6 ≤ w → w < 9 → D.length = L → RPs I tp tl m (fltS D) o → (fltS D).length ≤ m → I 177 10 = nI L → RDr I D → ∃ I', RGk I I' k p ∧ ∀ r, Ev X d 183 15 [.ref 177, .int (nI w), .int (nI 0)] [] (mk I' J) r → Ev X d 183 6 [.ref 177, .int (nI w), .int (nI 1)] [] (mk I J) r
def RRt (X : Nat × (Nat → Int32)) (tp : Nat → Nat) (tl m L m' : Nat) (E : LnL) : Prop := ∀ (d : Nat) (I : Nat → Nat → Int32) (J : Nat → Nat → Int64) (D : LnL) (o w : Nat), 47 ≤ d → 6 ≤ w → w < 9 → D.length = L → RPs I tp tl m (fltS D) o → (fltS D).length ≤ m → I 177 10 = nI L → RDr I D → ∃ I' o', RGq I I' ∧ RPs I' tp tl m' (fltS (D ++ E)) o' ∧ I' 177 10 = nI (L + E.length) ∧ RDr I' (D ++ E) ∧ ∀ r, Ev X d 183 15 [.ref 177, .int (nI w), .int (nI 1)] [] (mk I' J) r → Ev X d 183 6 [.ref 177, .int (nI w), .int (nI 1)] [] (mk I J) r
theorem crt_0 {m L : Nat} (hL : L ≤ 16) (k0 : psK tp tl m = 0) : CRt X tp tl m L m [] := by
  intro d I J D u v hd eD h hl hD
  obtain ⟨k5, _, _⟩ := CPs_k h
  rw [k0] at k5
  refine ⟨I, CFq_r (CFr_refl I), ?_, ?_, ?_⟩
  · rw [List.append_nil]; exact h
  · rw [List.append_nil]; exact hD
  · simp (disch := first | omega | assumption | exact rfl) only [U_58_1, U_58_2, U_58_6, XX, QQ, WW, KK, QX, SHs, RRs, Nat.reduceAdd, Nat.reduceMul, Nat.reduceLeDiff, Nat.reduceEqDiff, List.length_cons, List.length_nil, decide_true, decide_false, Bool.true_and, Bool.and_true, Bool.false_and, Bool.and_false, false_and, and_false, Bool.false_eq_true, Bool.true_eq_false, reduceCtorEq, eq_self, if_true, if_false, true_and, and_true, not_true_eq_false, not_false_eq_true, if_pos, if_neg, z_ite_not, false_or, or_false, true_or, or_true, SWs, swk_0, swk_1, k5]
theorem rrt_0 {m L : Nat} (k0 : psK tp tl m = 0) : RRt X tp tl m L m [] := by
  intro d I J D o w hd w1 w2 eD h hl h10 hD
  obtain ⟨k5, _, _⟩ := RPs_k h
  rw [k0, show rtk false 0 = 0 by decide] at k5
  refine ⟨I, o, RGq_q (RFq_r (RFr_refl I)), ?_, h10, ?_, fun r Hr => ?_⟩
  · rw [List.append_nil]; exact h
  · rw [List.append_nil]; exact hD
  · simp (disch := first | omega | assumption | exact rfl) only [U_183_6, U_183_7, XX, QQ, WW, KK, QX, SHs, RRs, Nat.reduceAdd, Nat.reduceMul, Nat.reduceLeDiff, Nat.reduceEqDiff, List.length_cons, List.length_nil, decide_true, decide_false, Bool.true_and, Bool.and_true, Bool.false_and, Bool.and_false, false_and, and_false, Bool.false_eq_true, Bool.true_eq_false, reduceCtorEq, eq_self, if_true, if_false, true_and, and_true, not_true_eq_false, not_false_eq_true, if_pos, if_neg, z_ite_not, false_or, or_false, true_or, or_true, SWs, swk_0, swk_1, k5]
    exact Hr
theorem crf_1 {m L k p : Nat} (hL : L ≤ 16) (k0 : psK tp tl m ≠ 0) (h1 : CLf X tp tl m L k p) : CRf X tp tl m L k p := by
  intro d I J D u v hd eD h hl hD
  have kb := psK_b (tp := tp) (tl := tl) (m := m)
  obtain ⟨k5, _, _⟩ := CPs_k h
  obtain ⟨I1, e1, f1⟩ := h1 d I J D hd eD h hl hD
  refine ⟨I1, f1, ?_⟩
  simp (disch := first | omega | assumption | exact rfl) only [U_58_1, U_58_2, U_58_3, U_58_4, XX, QQ, WW, KK, QX, SHs, RRs, Nat.reduceAdd, Nat.reduceMul, Nat.reduceLeDiff, Nat.reduceEqDiff, List.length_cons, List.length_nil, decide_true, decide_false, Bool.true_and, Bool.and_true, Bool.false_and, Bool.and_false, false_and, and_false, Bool.false_eq_true, Bool.true_eq_false, reduceCtorEq, eq_self, if_true, if_false, true_and, and_true, not_true_eq_false, not_false_eq_true, if_pos, if_neg, z_ite_not, false_or, or_false, true_or, or_true, SWs, swk_0, swk_1, k5, k0, e1]
theorem crf_2 {m L k p m1 : Nat} {q : Nat × Nat × List (Nat × Nat)} (hL : L < 16) (k0 : psK tp tl m ≠ 0) (hq : m + (segC q.2.2).length ≤ m1) (h1 : CLn X tp tl m L m1 q) (h2 : CRf X tp tl m1 (L + 1) k p) : CRf X tp tl m L k p := by
  intro d I J D u v hd eD h hl hD
  have kb := psK_b (tp := tp) (tl := tl) (m := m)
  obtain ⟨k5, _, _⟩ := CPs_k h
  obtain ⟨I1, e1, f1, s1, g1⟩ := h1 d I J D hd eD h hl hD
  have l1 : (segC (fltS (D ++ [q]))).length ≤ m1 := by
    obtain ⟨a, b, c⟩ := q
    rw [fltS_s, segC_app, List.length_append]; have := hq; dsimp only at this; omega
  obtain ⟨I2, f2, E⟩ := h2 d I1 J (D ++ [q]) u v hd (by rw [List.length_append, eD]; rfl) s1 l1 g1
  refine ⟨I2, CFl_q f1 f2, ?_⟩
  rw [U_58_1]
  simp (disch := first | omega | assumption | exact rfl) only [U_58_2, U_58_3, U_58_5, XX, QQ, WW, KK, QX, SHs, RRs, Nat.reduceAdd, Nat.reduceMul, Nat.reduceLeDiff, Nat.reduceEqDiff, List.length_cons, List.length_nil, decide_true, decide_false, Bool.true_and, Bool.and_true, Bool.false_and, Bool.and_false, false_and, and_false, Bool.false_eq_true, Bool.true_eq_false, reduceCtorEq, eq_self, if_true, if_false, true_and, and_true, not_true_eq_false, not_false_eq_true, if_pos, if_neg, z_ite_not, false_or, or_false, true_or, or_true, SWs, swk_0, swk_1, k5, k0, e1]
  exact E
theorem crt_2 {m L m1 m' : Nat} {q : Nat × Nat × List (Nat × Nat)} {E : LnL} (hL : L < 16) (k0 : psK tp tl m ≠ 0) (hq : m + (segC q.2.2).length ≤ m1) (h1 : CLn X tp tl m L m1 q) (h2 : CRt X tp tl m1 (L + 1) m' E) : CRt X tp tl m L m' (q :: E) := by
  intro d I J D u v hd eD h hl hD
  have kb := psK_b (tp := tp) (tl := tl) (m := m)
  obtain ⟨k5, _, _⟩ := CPs_k h
  obtain ⟨I1, e1, f1, s1, g1⟩ := h1 d I J D hd eD h hl hD
  have l1 : (segC (fltS (D ++ [q]))).length ≤ m1 := by
    obtain ⟨a, b, c⟩ := q
    rw [fltS_s, segC_app, List.length_append]; have := hq; dsimp only at this; omega
  obtain ⟨I2, f2, s2, g2, E⟩ := h2 d I1 J (D ++ [q]) u v hd (by rw [List.length_append, eD]; rfl) s1 l1 g1
  rw [List.append_assoc] at s2 g2
  refine ⟨I2, CFq_t f1 f2, s2, g2, ?_⟩
  rw [U_58_1]
  simp (disch := first | omega | assumption | exact rfl) only [U_58_2, U_58_3, U_58_5, XX, QQ, WW, KK, QX, SHs, RRs, Nat.reduceAdd, Nat.reduceMul, Nat.reduceLeDiff, Nat.reduceEqDiff, List.length_cons, List.length_nil, decide_true, decide_false, Bool.true_and, Bool.and_true, Bool.false_and, Bool.and_false, false_and, and_false, Bool.false_eq_true, Bool.true_eq_false, reduceCtorEq, eq_self, if_true, if_false, true_and, and_true, not_true_eq_false, not_false_eq_true, if_pos, if_neg, z_ite_not, false_or, or_false, true_or, or_true, SWs, swk_0, swk_1, k5, k0, e1]
  exact E
theorem rk_0 {k : Nat} (h : k < 276) (h2 : k ≠ 0) : ¬ rtk false k = 0 := fun z => h2 ((rq_3 k h).2.2.2.2.2.mp z)
theorem rrf_1 {m L k p : Nat} (hL : L ≤ 16) (k0 : psK tp tl m ≠ 0) (h1 : RLf X tp tl m L k p) : RRf X tp tl m L k p := by
  intro d I J D o w hd w1 w2 eD h hl h10 hD
  have kb := psK_b (tp := tp) (tl := tl) (m := m)
  obtain ⟨k5, _, _⟩ := RPs_k h
  have z0 := rk_0 kb k0
  have zb := (rq_4 _ kb).2.2.2.2
  obtain ⟨I1, e1, f1⟩ := h1 d I J D o hd eD h hl h10 hD
  have g10 : I1 177 10 = nI L := by rw [f1.2.1 10 (by decide) (by decide) (by decide) (by decide) (by decide) (by decide) (by decide) (by decide)]; exact h10
  refine ⟨_, RGk_10 (v := nI L) (RGk_k f1), fun r Hr => ?_⟩
  have z9 : ¬ w < 6 := by omega
  rw [U_183_6]
  simp (disch := first | omega | assumption | exact rfl) only [U_183_6, U_183_7, U_183_8, U_183_10, U_183_11, U_183_13, U_183_14, XX, QQ, WW, KK, QX, SHs, RRs, Nat.reduceAdd, Nat.reduceMul, Nat.reduceLeDiff, Nat.reduceEqDiff, List.length_cons, List.length_nil, decide_true, decide_false, Bool.true_and, Bool.and_true, Bool.false_and, Bool.and_false, false_and, and_false, Bool.false_eq_true, Bool.true_eq_false, reduceCtorEq, eq_self, if_true, if_false, true_and, and_true, not_true_eq_false, not_false_eq_true, if_pos, if_neg, z_ite_not, false_or, or_false, true_or, or_true, SWs, swk_0, swk_1, k5, z0, z9, e1, g10]
  exact Hr
theorem rrf_2 {m L k p m1 : Nat} {q : Nat × Nat × List (Nat × Nat)} (hL : L < 16) (k0 : psK tp tl m ≠ 0) (hq : m + (segC q.2.2).length ≤ m1) (h1 : RLn X tp tl m L m1 q) (h2 : RRf X tp tl m1 (L + 1) k p) : RRf X tp tl m L k p := by
  intro d I J D o w hd w1 w2 eD h hl h10 hD
  have kb := psK_b (tp := tp) (tl := tl) (m := m)
  obtain ⟨k5, _, _⟩ := RPs_k h
  have z0 := rk_0 kb k0
  have zb := (rq_4 _ kb).2.2.2.2
  obtain ⟨I1, e1, f1, s1, g1⟩ := h1 d I J D o hd eD h hl h10 hD
  have g10 : I1 177 10 = nI L := by rw [f1.2 10 (by decide) (by decide) (by decide) (by decide) (by decide) (by decide) (by decide)]; exact h10
  have l1 : (fltS (D ++ [q])).length ≤ m1 := by
    obtain ⟨a, b, c⟩ := q
    have c1 := segC_l c
    rw [fltS_s, List.length_append]; have := hq; dsimp only at this; omega
  have gD : RDr (va_up I1 177 (va_up (I1 177) 10 (nI (L + 1)))) (D ++ [q]) := fun i hi => by rw [vu_ne (by decide)]; exact g1 i hi
  obtain ⟨I2, f2, E⟩ := h2 d _ J (D ++ [q]) 0 w hd w1 w2 (by rw [List.length_append, eD]; rfl) (RPs_10 (v := nI (L + 1)) s1) l1 (by rw [vu_eq, vu_eq]) gD
  refine ⟨I2, RGk_t (RGq_t (RGq_q f1) RGq_10) f2, fun r Hr => ?_⟩
  have z9 : ¬ w < 6 := by omega
  rw [U_183_6]
  simp (disch := first | omega | assumption | exact rfl) only [U_183_7, U_183_8, U_183_10, U_183_11, U_183_12, U_183_14, XX, QQ, WW, KK, QX, SHs, RRs, Nat.reduceAdd, Nat.reduceMul, Nat.reduceLeDiff, Nat.reduceEqDiff, List.length_cons, List.length_nil, decide_true, decide_false, Bool.true_and, Bool.and_true, Bool.false_and, Bool.and_false, false_and, and_false, Bool.false_eq_true, Bool.true_eq_false, reduceCtorEq, eq_self, if_true, if_false, true_and, and_true, not_true_eq_false, not_false_eq_true, if_pos, if_neg, z_ite_not, false_or, or_false, true_or, or_true, SWs, swk_0, swk_1, k5, z0, z9, e1, g10]
  exact E r Hr
theorem rrt_2 {m L m1 m' : Nat} {q : Nat × Nat × List (Nat × Nat)} {F : LnL} (hL : L < 16) (k0 : psK tp tl m ≠ 0) (hq : m + (segC q.2.2).length ≤ m1) (h1 : RLn X tp tl m L m1 q) (h2 : RRt X tp tl m1 (L + 1) m' F) : RRt X tp tl m L m' (q :: F) := by
  intro d I J D o w hd w1 w2 eD h hl h10 hD
  have kb := psK_b (tp := tp) (tl := tl) (m := m)
  obtain ⟨k5, _, _⟩ := RPs_k h
  have z0 := rk_0 kb k0
  have zb := (rq_4 _ kb).2.2.2.2
  obtain ⟨I1, e1, f1, s1, g1⟩ := h1 d I J D o hd eD h hl h10 hD
  have g10 : I1 177 10 = nI L := by rw [f1.2 10 (by decide) (by decide) (by decide) (by decide) (by decide) (by decide) (by decide)]; exact h10
  have l1 : (fltS (D ++ [q])).length ≤ m1 := by
    obtain ⟨a, b, c⟩ := q
    have c1 := segC_l c
    rw [fltS_s, List.length_append]; have := hq; dsimp only at this; omega
  have gD : RDr (va_up I1 177 (va_up (I1 177) 10 (nI (L + 1)))) (D ++ [q]) := fun i hi => by rw [vu_ne (by decide)]; exact g1 i hi
  obtain ⟨I2, o2, f2, s2, j2, g2, E⟩ := h2 d _ J (D ++ [q]) 0 w hd w1 w2 (by rw [List.length_append, eD]; rfl) (RPs_10 (v := nI (L + 1)) s1) l1 (by rw [vu_eq, vu_eq]) gD
  rw [List.append_assoc] at s2 g2
  refine ⟨I2, o2, RGq_t (RGq_t (RGq_q f1) RGq_10) f2, s2, ?_, g2, fun r Hr => ?_⟩
  · rw [j2, List.length_cons, show L + 1 + F.length = L + (F.length + 1) by omega]
  have z9 : ¬ w < 6 := by omega
  rw [U_183_6]
  simp (disch := first | omega | assumption | exact rfl) only [U_183_7, U_183_8, U_183_10, U_183_11, U_183_12, U_183_14, XX, QQ, WW, KK, QX, SHs, RRs, Nat.reduceAdd, Nat.reduceMul, Nat.reduceLeDiff, Nat.reduceEqDiff, List.length_cons, List.length_nil, decide_true, decide_false, Bool.true_and, Bool.and_true, Bool.false_and, Bool.and_false, false_and, and_false, Bool.false_eq_true, Bool.true_eq_false, reduceCtorEq, eq_self, if_true, if_false, true_and, and_true, not_true_eq_false, not_false_eq_true, if_pos, if_neg, z_ite_not, false_or, or_false, true_or, or_true, SWs, swk_0, swk_1, k5, z0, z9, e1, g10]
  exact E r Hr
def lnOk (q : Nat × Nat × List (Nat × Nat)) : Prop := q.1 < 7 ∧ q.2.1 ≤ 9999 ∧ (q.2.2 = [] ∨ ak q.2.2 [] = some [true])
theorem rule_ : ∀ n m L, tkT tp tl ≤ m + n → m ≤ tkT tp tl → L ≤ 16 → (∃ k p, CRf X tp tl m L k p ∧ RRf X tp tl m L k p) ∨ ∃ m' E, m' ≤ tkT tp tl ∧ L + E.length ≤ 16 ∧ (segC (fltS E)).length + m ≤ m' ∧ (∀ q, q ∈ E → lnOk q) ∧ CRt X tp tl m L m' E ∧ RRt X tp tl m L m' E := by
  intro n
  induction n with
  | zero =>
    intro m L h1 h2 hL
    have k0 : psK tp tl m = 0 := by rw [show m = tkT tp tl by omega]; exact psK_T
    exact Or.inr ⟨m, [], h2, hL, Nat.le_of_eq (Nat.zero_add m), fun q hq => absurd hq List.not_mem_nil, crt_0 hL k0, rrt_0 k0⟩
  | succ n ih =>
    intro m L h1 h2 hL
    by_cases k0 : psK tp tl m = 0
    · exact Or.inr ⟨m, [], h2, hL, Nat.le_of_eq (Nat.zero_add m), fun q hq => absurd hq List.not_mem_nil, crt_0 hL k0, rrt_0 k0⟩
    · rcases line_ (X := X) hL h2 with ⟨k, p, a, b⟩ | ⟨hL', m1, w, b, S, b1, b2, b3, b4, b5, b6, c, r⟩
      · exact Or.inl ⟨k, p, crf_1 hL k0 a, rrf_1 hL k0 b⟩
      · have hq : m + (segC (w, b, S).2.2).length ≤ m1 := by dsimp only; omega
        rcases ih m1 (L + 1) (by omega) b1 (by omega) with ⟨k, p, x, y⟩ | ⟨m', E, d1, d2, d3, d4, x, y⟩
        · exact Or.inl ⟨k, p, crf_2 hL' k0 hq c x, rrf_2 hL' k0 hq r y⟩
        · refine Or.inr ⟨m', (w, b, S) :: E, d1, ?_, ?_, ?_, crt_2 hL' k0 hq c x, rrt_2 hL' k0 hq r y⟩
          · rw [List.length_cons]; omega
          · rw [fltS, segC_app, List.length_append]; dsimp only; omega
          · intro q hm
            rcases List.mem_cons.mp hm with z | z
            · subst z; exact ⟨b4, b5, b6⟩
            · exact d4 q z
end RLP
