/-! ===== a product: class (inside readSum) and reference ===== -/
section PRD
variable {X : Nat × (Nat → Int32)} {tp : Nat → Nat} {tl m : Nat}
def CpS (X : Nat × (Nat → Int32)) (tp : Nat → Nat) (tl m m2 : Nat) (S0 : List (Nat × Nat)) : Prop := ∀ (d : Nat) (I : Nat → Nat → Int32) (J : Nat → Nat → Int64) (W : List Int32) (wt u : Int32) (i : Nat), 2 ≤ d → CPs I tp tl m W → W.length ≤ m → i ≤ m → ∃ I' u' i', CFr I I' ∧ CPs I' tp tl m2 (W ++ segC S0) ∧ i' ≤ m2 ∧ ∀ r, Ev X d 63 10 [.ref 124, .int wt, .int u', .int (nI i')] [] (mk I' J) r → Ev X d 63 10 [.ref 124, .int wt, .int u, .int (nI i)] [] (mk I J) r
def CpT (X : Nat × (Nat → Int32)) (tp : Nat → Nat) (tl m m2 : Nat) (S0 : List (Nat × Nat)) : Prop := ∀ (d : Nat) (I : Nat → Nat → Int32) (J : Nat → Nat → Int64) (W : List Int32) (wt u : Int32) (i : Nat), 2 ≤ d → CPs I tp tl m W → W.length ≤ m → i ≤ m → ∃ I' i', CFr I I' ∧ CPs I' tp tl m2 (W ++ segC S0) ∧ i' ≤ m2 ∧ ∀ r, Ev X d 63 12 [.ref 124, .int wt, .int (nI (psK tp tl m2)), .int (nI i')] [] (mk I' J) r → Ev X d 63 10 [.ref 124, .int wt, .int u, .int (nI i)] [] (mk I J) r
def CpF (X : Nat × (Nat → Int32)) (tp : Nat → Nat) (tl m k p : Nat) : Prop := ∀ (d : Nat) (I : Nat → Nat → Int32) (J : Nat → Nat → Int64) (W : List Int32) (wt u : Int32) (i : Nat), 2 ≤ d → CPs I tp tl m W → W.length ≤ m → i ≤ m → ∃ I', CGl I I' k p ∧ Ev X d 63 10 [.ref 124, .int wt, .int u, .int (nI i)] [] (mk I J) (some (.int (nI 0)), mk I' J)
def RpS (X : Nat × (Nat → Int32)) (tp : Nat → Nat) (tl m m2 : Nat) (S0 : List (Nat × Nat)) : Prop := ∀ (d : Nat) (I : Nat → Nat → Int32) (J : Nat → Nat → Int64) (Q : List (Nat × Nat)) (o : Nat) (u v : Value), 15 ≤ d → RPs I tp tl m Q o → Q.length ≤ m → ∃ I' u' v', RFr I I' ∧ RPs I' tp tl m2 (Q ++ S0) o ∧ ∀ r, Ev X d 175 2 [.ref 177, u', v'] [] (mk I' J) r → Ev X d 175 2 [.ref 177, u, v] [] (mk I J) r
def RpT (X : Nat × (Nat → Int32)) (tp : Nat → Nat) (tl m m2 : Nat) (S0 : List (Nat × Nat)) : Prop := ∀ (d : Nat) (I : Nat → Nat → Int32) (J : Nat → Nat → Int64) (Q : List (Nat × Nat)) (o : Nat) (u v : Value), 15 ≤ d → RPs I tp tl m Q o → Q.length ≤ m → ∃ I', RFr I I' ∧ RPs I' tp tl m2 (Q ++ S0) o ∧ Ev X d 175 2 [.ref 177, u, v] [] (mk I J) (some (.int (nI 1)), mk I' J)
def RpF (X : Nat × (Nat → Int32)) (tp : Nat → Nat) (tl m k p : Nat) : Prop := ∀ (d : Nat) (I : Nat → Nat → Int32) (J : Nat → Nat → Int64) (Q : List (Nat × Nat)) (o : Nat) (u v : Value), 15 ≤ d → RPs I tp tl m Q o → Q.length ≤ m → ∃ I', RFl I I' k p ∧ Ev X d 175 2 [.ref 177, u, v] [] (mk I J) (some (.int (nI 0)), mk I' J)
def uOk (X : Nat × (Nat → Int32)) (tp : Nat → Nat) (tl m : Nat) (dv : Bool) (x : Int32) : Prop := ∀ (d : Nat) (I : Nat → Nat → Int32) (J : Nat → Nat → Int64) (W : List Int32), 2 ≤ d → CPs I tp tl m W → W.length < 400 → ∃ I', callF X d 64 [.ref 124, .int (bI dv)] (mk I J) = some (some (.int (nI 1)), mk I' J) ∧ CFr I I' ∧ CPs I' tp tl (m + 1) (W ++ [x])
def uNo (X : Nat × (Nat → Int32)) (tp : Nat → Nat) (tl m : Nat) (dv : Bool) (k : Nat) : Prop := ∀ (d : Nat) (I : Nat → Nat → Int32) (J : Nat → Nat → Int64) (W : List Int32), 2 ≤ d → CPs I tp tl m W → ∃ I', callF X d 64 [.ref 124, .int (bI dv)] (mk I J) = some (some (.int (nI 0)), mk I' J) ∧ CGl I I' k (tpo tp tl m)
theorem T400 {I : Nat → Nat → Int32} {W : List Int32} (h : CPs I tp tl m W) : tkT tp tl ≤ 400 ∧ m ≤ tkT tp tl := by
  have := (tkT_s (tp := tp) (tl := tl)).1
  have := h.1
  have := h.2.2.2.2.1
  omega
theorem cp_step {c : Nat} {dv : Bool} {x : Int32} {S0 : List (Nat × Nat)} (hc : (c = 42 ∧ dv = false) ∨ (c = 47 ∧ dv = true)) (hk : psK tp tl m = c) (hu : uOk X tp tl (m + 1) dv x) (hS : segC S0 = [x, -(nI c)]) : CpS X tp tl m (m + 2) S0 := by
  intro d I J W wt u i hd h hw hi
  obtain ⟨k5, k6, k7⟩ := CPs_k h
  obtain ⟨t1, t2⟩ := T400 h
  have hm := psK_lt h.2.2.2.2.1 (by omega)
  obtain ⟨I1, e1, f1, s1⟩ := c_nx (X := X) (d := d) (J := J) (by omega) h hm
  obtain ⟨I2, e2, f2, s2⟩ := hu d I1 J W hd s1 (by omega)
  have t3 := (T400 s2).2
  obtain ⟨I3, e3, f3, s3⟩ := c_wr (X := X) (d := d) (J := J) (x := -(nI c)) (by omega) s2 (by rw [List.length_append, List.length_cons, List.length_nil]; omega)
  refine ⟨I3, nI c, i + 1, CFr_trans f1 (CFr_trans f2 f3), ?_, by omega, fun r H => ?_⟩
  · rw [hS]; rw [List.append_assoc] at s3; exact s3
  · rw [U_63_10]
    have z1 : i + 1 ≤ 400 := by omega
    rcases hc with ⟨rfl, rfl⟩ | ⟨rfl, rfl⟩
    · rw [q_f] at e2
      simp (disch := first | omega | assumption | exact rfl) only [U_63_18, U_63_1, U_63_2, U_63_4, U_63_5, U_63_7, U_63_9, XX, QQ, WW, KK, QX, SHs, RRs, Nat.reduceAdd, Nat.reduceMul, Nat.reduceLeDiff, Nat.reduceEqDiff, List.length_cons, List.length_nil, decide_true, decide_false, Bool.true_and, Bool.and_true, Bool.false_and, Bool.and_false, false_and, and_false, Bool.false_eq_true, Bool.true_eq_false, reduceCtorEq, eq_self, if_true, if_false, true_and, and_true, not_true_eq_false, not_false_eq_true, if_pos, if_neg, z_ite_not, false_or, or_false, true_or, or_true, SWs, swk_0, swk_1, k5, hk, e1, e2, e3]
      exact H
    · rw [q_t] at e2
      simp (disch := first | omega | assumption | exact rfl) only [U_63_11, U_63_18, U_63_1, U_63_2, U_63_3, U_63_5, U_63_7, U_63_8, U_63_9, XX, QQ, WW, KK, QX, SHs, RRs, Nat.reduceAdd, Nat.reduceMul, Nat.reduceLeDiff, Nat.reduceEqDiff, List.length_cons, List.length_nil, decide_true, decide_false, Bool.true_and, Bool.and_true, Bool.false_and, Bool.and_false, false_and, and_false, Bool.false_eq_true, Bool.true_eq_false, reduceCtorEq, eq_self, if_true, if_false, true_and, and_true, not_true_eq_false, not_false_eq_true, if_pos, if_neg, z_ite_not, false_or, or_false, true_or, or_true, SWs, swk_0, swk_1, k5, hk, e1, e2, e3]
      exact H
theorem cp_fail {c k : Nat} {dv : Bool} (hc : (c = 42 ∧ dv = false) ∨ (c = 47 ∧ dv = true)) (hk : psK tp tl m = c) (hu : uNo X tp tl (m + 1) dv k) : CpF X tp tl m k (tpo tp tl (m + 1)) := by
  intro d I J W wt u i hd h hw hi
  obtain ⟨k5, k6, k7⟩ := CPs_k h
  obtain ⟨t1, t2⟩ := T400 h
  have hm := psK_lt h.2.2.2.2.1 (by omega)
  obtain ⟨I1, e1, f1, s1⟩ := c_nx (X := X) (d := d) (J := J) (by omega) h hm
  obtain ⟨I2, e2, f2⟩ := hu d I1 J W hd s1
  refine ⟨I2, CGl_after f1 f2, ?_⟩
  rw [U_63_10]
  have z1 : i + 1 ≤ 400 := by omega
  rcases hc with ⟨rfl, rfl⟩ | ⟨rfl, rfl⟩
  · rw [q_f] at e2
    simp (disch := first | omega | assumption | exact rfl) only [U_63_18, U_63_1, U_63_2, U_63_4, U_63_5, U_63_6, XX, QQ, WW, KK, QX, SHs, RRs, Nat.reduceAdd, Nat.reduceMul, Nat.reduceLeDiff, Nat.reduceEqDiff, List.length_cons, List.length_nil, decide_true, decide_false, Bool.true_and, Bool.and_true, Bool.false_and, Bool.and_false, false_and, and_false, Bool.false_eq_true, Bool.true_eq_false, reduceCtorEq, eq_self, if_true, if_false, true_and, and_true, not_true_eq_false, not_false_eq_true, if_pos, if_neg, z_ite_not, false_or, or_false, true_or, or_true, SWs, swk_0, swk_1, k5, hk, e1, e2]
  · rw [q_t] at e2
    simp (disch := first | omega | assumption | exact rfl) only [U_63_11, U_63_18, U_63_1, U_63_2, U_63_3, U_63_5, U_63_6, XX, QQ, WW, KK, QX, SHs, RRs, Nat.reduceAdd, Nat.reduceMul, Nat.reduceLeDiff, Nat.reduceEqDiff, List.length_cons, List.length_nil, decide_true, decide_false, Bool.true_and, Bool.and_true, Bool.false_and, Bool.and_false, false_and, and_false, Bool.false_eq_true, Bool.true_eq_false, reduceCtorEq, eq_self, if_true, if_false, true_and, and_true, not_true_eq_false, not_false_eq_true, if_pos, if_neg, z_ite_not, false_or, or_false, true_or, or_true, SWs, swk_0, swk_1, k5, hk, e1, e2]
theorem RPs_l {I : Nat → Nat → Int32} {Q : List (Nat × Nat)} {o : Nat} (h : RPs I tp tl m Q o) : tkT tp tl ≤ 400 ∧ m ≤ tkT tp tl := by
  have := (tkT_s (tp := tp) (tl := tl)).1
  have := h.1.1
  have := h.2.2.2.1
  omega
/-- what the reference's unit says -/
def vOk (X : Nat × (Nat → Int32)) (tp : Nat → Nat) (tl m : Nat) (q : Nat × Nat) : Prop := ∀ (d : Nat) (I : Nat → Nat → Int32) (J : Nat → Nat → Int64) (Q : List (Nat × Nat)) (o : Nat), 15 ≤ d → RPs I tp tl m Q o → Q.length < 400 → ∃ I', callF X d 176 [.ref 177] (mk I J) = some (some (.int (nI 1)), mk I' J) ∧ RFr I I' ∧ RPs I' tp tl (m + 1) (Q ++ [q]) o
def vNo (X : Nat × (Nat → Int32)) (tp : Nat → Nat) (tl m : Nat) (k : Nat) : Prop := ∀ (d : Nat) (I : Nat → Nat → Int32) (J : Nat → Nat → Int64) (Q : List (Nat × Nat)) (o : Nat), 15 ≤ d → RPs I tp tl m Q o → ∃ I', callF X d 176 [.ref 177] (mk I J) = some (some (.int (nI 0)), mk I' J) ∧ RFl I I' k (tpo tp tl m)
theorem rp_times {q : Nat × Nat} (hk : psK tp tl m = 42) (hu : vOk X tp tl (m + 1) q) : RpS X tp tl m (m + 2) [q, (8, 0)] := by
  intro d I J Q o u v hd h hq
  obtain ⟨k5, k6, k7⟩ := RPs_k h
  obtain ⟨t1, t2⟩ := RPs_l h
  have hm := psK_lt h.2.2.2.1 (by omega)
  have k9 : I 177 14 = nI 142 := by rw [k5, hk]; rfl
  obtain ⟨I1, e1, f1, s1⟩ := r_nx (X := X) (d := d) (J := J) (by omega) h hm
  obtain ⟨I2, e2, f2, s2⟩ := hu d I1 J Q o hd s1 (by omega)
  have t3 := (RPs_l s2).2
  obtain ⟨I3, e3, f3, s3⟩ := r_lay0 (X := X) (d := d) (J := J) (op := 8) (v := nI 0) (x := 0) (by omega) s2 (by rw [List.length_append, List.length_cons, List.length_nil]; omega) (fun _ => rfl)
  rw [List.append_assoc] at s3
  refine ⟨I3, .int (nI 0), v, RFr_trans f1 (RFr_trans f2 f3), s3, fun r H => ?_⟩
  rw [U_175_2]
  simp (disch := first | omega | assumption | exact rfl) only [U_175_4, U_175_6, U_175_7, U_175_11, U_175_13, U_175_14, XX, QQ, WW, KK, QX, SHs, RRs, Nat.reduceAdd, Nat.reduceMul, Nat.reduceLeDiff, Nat.reduceEqDiff, List.length_cons, List.length_nil, decide_true, decide_false, Bool.true_and, Bool.and_true, Bool.false_and, Bool.and_false, false_and, and_false, Bool.false_eq_true, Bool.true_eq_false, reduceCtorEq, eq_self, if_true, if_false, true_and, and_true, not_true_eq_false, not_false_eq_true, if_pos, if_neg, z_ite_not, false_or, or_false, true_or, or_true, SWs, swk_0, swk_1, k9, e1, e2, e3]
  exact H
theorem rp_timesF {k : Nat} (hk : psK tp tl m = 42) (hu : vNo X tp tl (m + 1) k) : RpF X tp tl m k (tpo tp tl (m + 1)) := by
  intro d I J Q o u v hd h hq
  obtain ⟨k5, k6, k7⟩ := RPs_k h
  have hm := psK_lt h.2.2.2.1 (by omega)
  have k9 : I 177 14 = nI 142 := by rw [k5, hk]; rfl
  obtain ⟨I1, e1, f1, s1⟩ := r_nx (X := X) (d := d) (J := J) (by omega) h hm
  obtain ⟨I2, e2, f2⟩ := hu d I1 J Q o hd s1
  refine ⟨I2, RFl_after f1 f2, ?_⟩
  rw [U_175_2]
  simp (disch := first | omega | assumption | exact rfl) only [U_175_4, U_175_6, U_175_7, U_175_11, U_175_12, XX, QQ, WW, KK, QX, SHs, RRs, Nat.reduceAdd, Nat.reduceMul, Nat.reduceLeDiff, Nat.reduceEqDiff, List.length_cons, List.length_nil, decide_true, decide_false, Bool.true_and, Bool.and_true, Bool.false_and, Bool.and_false, false_and, and_false, Bool.false_eq_true, Bool.true_eq_false, reduceCtorEq, eq_self, if_true, if_false, true_and, and_true, not_true_eq_false, not_false_eq_true, if_pos, if_neg, z_ite_not, false_or, or_false, true_or, or_true, SWs, swk_0, swk_1, k9, e1, e2]
theorem rp_part (hk : psK tp tl m = 47) (k2 : psK tp tl (m + 1) = 2) (hz : psV tp tl (m + 1) ≠ 0) : RpS X tp tl m (m + 2) [(9, psV tp tl (m + 1))] := by
  intro d I J Q o u v hd h hq
  obtain ⟨k5, k6, k7⟩ := RPs_k h
  obtain ⟨t1, t2⟩ := RPs_l h
  have hm := psK_lt h.2.2.2.1 (by omega)
  have k9 : I 177 14 = nI 147 := by rw [k5, hk]; rfl
  have vb := psV_b (tp := tp) (tl := tl) (m := m + 1)
  obtain ⟨I1, e1, f1, s1⟩ := r_nx (X := X) (d := d) (J := J) (by omega) h hm
  have k8 := (RPs_k s1).2.2 k2
  obtain ⟨I2, e2, f2, s2⟩ := r_numY (X := X) (d := d) (J := J) (a := 1) (b := 9999) hd s1 k2 (by omega) vb (Nat.le_refl _)
  have t3 := (RPs_l s2).2
  obtain ⟨I3, e3, f3, s3⟩ := r_lay0 (X := X) (d := d) (J := J) (op := 9) (v := nI (psV tp tl (m + 1))) (x := psV tp tl (m + 1)) (by omega) s2 (by omega) (fun _ => rfl)
  refine ⟨I3, .int (nI 1), .int (nI (psV tp tl (m + 1))), RFr_trans f1 (RFr_trans f2 f3), s3, fun r H => ?_⟩
  rw [U_175_2]
  simp (disch := first | omega | assumption | exact rfl) only [U_175_3, U_175_4, U_175_5, U_175_7, U_175_8, U_175_10, U_175_14, XX, QQ, WW, KK, QX, SHs, RRs, Nat.reduceAdd, Nat.reduceMul, Nat.reduceLeDiff, Nat.reduceEqDiff, List.length_cons, List.length_nil, decide_true, decide_false, Bool.true_and, Bool.and_true, Bool.false_and, Bool.and_false, false_and, and_false, Bool.false_eq_true, Bool.true_eq_false, reduceCtorEq, eq_self, if_true, if_false, true_and, and_true, not_true_eq_false, not_false_eq_true, if_pos, if_neg, z_ite_not, false_or, or_false, true_or, or_true, SWs, swk_0, swk_1, k9, k8, e1, e2, e3]
  exact H
theorem rp_partF {k : Nat} (hk : psK tp tl m = 47) (hz : (psK tp tl (m + 1) ≠ 2 ∧ k = 1) ∨ (psK tp tl (m + 1) = 2 ∧ psV tp tl (m + 1) = 0 ∧ k = 2)) : RpF X tp tl m k (tpo tp tl (m + 1)) := by
  intro d I J Q o u v hd h hq
  obtain ⟨k5, k6, k7⟩ := RPs_k h
  have hm := psK_lt h.2.2.2.1 (by omega)
  have k9 : I 177 14 = nI 147 := by rw [k5, hk]; rfl
  obtain ⟨I1, e1, f1, s1⟩ := r_nx (X := X) (d := d) (J := J) (by omega) h hm
  obtain ⟨I2, e2, f2⟩ : ∃ I', callF X d 171 [.ref 177, .int (nI 1), .int (nI 9999)] (mk I1 J) = some (some (.int (nI 0)), mk I' J) ∧ RFl I1 I' k (tpo tp tl (m + 1)) := by
    rcases hz with ⟨a, rfl⟩ | ⟨a, b, rfl⟩
    · exact r_numF hd s1 a
    · exact r_numZ hd s1 a (by decide) (by decide) (by omega)
  refine ⟨I2, RFl_after f1 f2, ?_⟩
  rw [U_175_2]
  simp (disch := first | omega | assumption | exact rfl) only [U_175_3, U_175_4, U_175_5, U_175_7, U_175_8, U_175_9, XX, QQ, WW, KK, QX, SHs, RRs, Nat.reduceAdd, Nat.reduceMul, Nat.reduceLeDiff, Nat.reduceEqDiff, List.length_cons, List.length_nil, decide_true, decide_false, Bool.true_and, Bool.and_true, Bool.false_and, Bool.and_false, false_and, and_false, Bool.false_eq_true, Bool.true_eq_false, reduceCtorEq, eq_self, if_true, if_false, true_and, and_true, not_true_eq_false, not_false_eq_true, if_pos, if_neg, z_ite_not, false_or, or_false, true_or, or_true, SWs, swk_0, swk_1, k9, e1, e2]
theorem CpT_c {m2 m3 : Nat} {a b : List (Nat × Nat)} (h1 : CpS X tp tl m m2 a) (hl : (segC a).length + m ≤ m2) (h2 : CpT X tp tl m2 m3 b) : CpT X tp tl m m3 (a ++ b) := by
  intro d I J W wt u i hd h hw hi
  obtain ⟨I1, u1, i1, f1, s1, q1, H1⟩ := h1 d I J W wt u i hd h hw hi
  obtain ⟨I2, i2, f2, s2, q2, H2⟩ := h2 d I1 J _ wt u1 i1 hd s1 (by rw [List.length_append]; omega) q1
  rw [List.append_assoc, ← segC_app] at s2
  exact ⟨I2, i2, CFr_trans f1 f2, s2, q2, fun r H => H1 r (H2 r H)⟩
theorem CpF_c {m2 k p : Nat} {a : List (Nat × Nat)} (h1 : CpS X tp tl m m2 a) (hl : (segC a).length + m ≤ m2) (h2 : CpF X tp tl m2 k p) : CpF X tp tl m k p := by
  intro d I J W wt u i hd h hw hi
  obtain ⟨I1, u1, i1, f1, s1, q1, H1⟩ := h1 d I J W wt u i hd h hw hi
  obtain ⟨I2, f2, H2⟩ := h2 d I1 J _ wt u1 i1 hd s1 (by rw [List.length_append]; omega) q1
  exact ⟨I2, CGl_after f1 f2, H1 _ H2⟩
theorem RpT_c {m2 m3 : Nat} {a b : List (Nat × Nat)} (h1 : RpS X tp tl m m2 a) (hl : a.length + m ≤ m2) (h2 : RpT X tp tl m2 m3 b) : RpT X tp tl m m3 (a ++ b) := by
  intro d I J Q o u v hd h hq
  obtain ⟨I1, u1, v1, f1, s1, H1⟩ := h1 d I J Q o u v hd h hq
  obtain ⟨I2, f2, s2, H2⟩ := h2 d I1 J _ o u1 v1 hd s1 (by rw [List.length_append]; omega)
  rw [List.append_assoc] at s2
  exact ⟨I2, RFr_trans f1 f2, s2, H1 _ H2⟩
theorem RpF_c {m2 k p : Nat} {a : List (Nat × Nat)} (h1 : RpS X tp tl m m2 a) (hl : a.length + m ≤ m2) (h2 : RpF X tp tl m2 k p) : RpF X tp tl m k p := by
  intro d I J Q o u v hd h hq
  obtain ⟨I1, u1, v1, f1, s1, H1⟩ := h1 d I J Q o u v hd h hq
  obtain ⟨I2, f2, H2⟩ := h2 d I1 J _ o u1 v1 hd s1 (by rw [List.length_append]; omega)
  exact ⟨I2, RFl_after f1 f2, H1 _ H2⟩
theorem unit_ (X : Nat × (Nat → Int32)) (tp : Nat → Nat) (tl m : Nat) : (uNo X tp tl m false 1 ∧ vNo X tp tl m 1) ∨ ∃ q x, psK tp tl m ≠ 0 ∧ segC [q] = [x] ∧ uOk X tp tl m false x ∧ vOk X tp tl m q ∧ ∀ K : List Bool, K.length < 30 → ak1 q K = some (false :: K) := by
  have kb := psK_b (tp := tp) (tl := tl) (m := m)
  have vb := psV_b (tp := tp) (tl := tl) (m := m)
  by_cases a : psK tp tl m = 2
  · refine .inr ⟨(0, psV tp tl m), nI (psV tp tl m), by omega, rfl, fun d I J W hd h hw => c_unitN hd h hw a (fun z => by cases z), fun d I J Q o hd h hq => r_unitN hd h hq a, fun K hK => ?_⟩
    unfold ak1
    rw [if_pos (show (0 : Nat) < 6 by decide), if_pos ⟨hK, vb⟩]
  · by_cases b : 271 ≤ psK tp tl m
    · obtain ⟨k, ek⟩ : ∃ k, psK tp tl m = k + 271 := ⟨psK tp tl m - 271, by omega⟩
      refine .inr ⟨(psK tp tl m - 270, 0), -(nI (psK tp tl m)), by omega, ?_, fun d I J W hd h hw => c_unitW hd h hw b, fun d I J Q o hd h hq => r_unitW hd h hq b, fun K hK => ?_⟩
      · have : ∀ k, k < 5 → segC [(k + 1, 0)] = [-(nI (k + 271))] := by decide +kernel
        rw [ek, show k + 271 - 270 = k + 1 by omega]
        exact this k (by omega)
      · unfold ak1
        rw [if_pos (show psK tp tl m - 270 < 6 by omega), if_pos ⟨hK, Nat.zero_le _⟩]
    · exact .inl ⟨fun d I J W hd h => c_unitF hd h a (.inr (by omega)), fun d I J Q o hd h => r_unitF hd h a (by omega)⟩
end PRD
