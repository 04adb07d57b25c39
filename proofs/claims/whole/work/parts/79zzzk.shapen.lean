/-! ===== a line of a shape: its numbers, its cells ===== -/
section SHN
variable {X : Nat × (Nat → Int32)} {tp : Nat → Nat} {tl m : Nat}
def CnF (X : Nat × (Nat → Int32)) (tp : Nat → Nat) (tl m a b kk : Nat) : Prop := ∀ (d : Nat) (I : Nat → Nat → Int32) (J : Nat → Nat → Int64), 2 ≤ d → CQs I tp tl m → ∃ I', callF X d 53 [.ref 124, .int (nI a), .int (nI b)] (mk I J) = some (some (.int (-1)), mk I' J) ∧ CFl I I' kk (tpo tp tl m)
def RnF (X : Nat × (Nat → Int32)) (tp : Nat → Nat) (tl m a b kk : Nat) : Prop := ∀ (d : Nat) (I : Nat → Nat → Int32) (J : Nat → Nat → Int64), 15 ≤ d → RQs I tp tl m → ∃ I', callF X d 171 [.ref 177, .int (nI a), .int (nI b)] (mk I J) = some (some (.int (nI 0)), mk I' J) ∧ RFl I I' kk (tpo tp tl m)
theorem numS_ {a b : Nat} (ha : a ≤ 9999) (hb : b ≤ 9999) : (∃ kk, CnF X tp tl m a b kk ∧ RnF X tp tl m a b kk) ∨ (psK tp tl m = 2 ∧ a ≤ psV tp tl m ∧ psV tp tl m ≤ b) := by
  by_cases k2 : psK tp tl m = 2
  · by_cases z : a ≤ psV tp tl m ∧ psV tp tl m ≤ b
    · exact Or.inr ⟨k2, z⟩
    · exact Or.inl ⟨2, fun d I J hd h => cs_numZ hd h k2 ha hb z, fun d I J hd h => rs_numZ hd h k2 ha hb z⟩
  · exact Or.inl ⟨1, fun d I J hd h => cs_numF hd h k2, fun d I J hd h => rs_numF hd h k2⟩
/-- class 56: how many cells -/
def CNs (X : Nat × (Nat → Int32)) (tp : Nat → Nat) (tl m k x y m' n : Nat) : Prop := ∀ (d : Nat) (I : Nat → Nat → Int32) (J : Nat → Nat → Int64), 3 ≤ d → CQs I tp tl m → ∃ I', callF X d 56 [.ref 124, .int (nI k), .int (nI x), .int (nI y)] (mk I J) = some (some (.int (nI n)), mk I' J) ∧ CFr I I' ∧ CQs I' tp tl m'
def CNf (X : Nat × (Nat → Int32)) (tp : Nat → Nat) (tl m k x y kk : Nat) : Prop := ∀ (d : Nat) (I : Nat → Nat → Int32) (J : Nat → Nat → Int64), 3 ≤ d → CQs I tp tl m → ∃ I', callF X d 56 [.ref 124, .int (nI k), .int (nI x), .int (nI y)] (mk I J) = some (some (.int (-1)), mk I' J) ∧ CFl I I' kk (tpo tp tl m)
def RNs (X : Nat × (Nat → Int32)) (tp : Nat → Nat) (tl m w x y m' n : Nat) : Prop := ∀ (d : Nat) (I : Nat → Nat → Int32) (J : Nat → Nat → Int64) (P : Int32), 15 ≤ d → RQs I tp tl m → ∃ I', RFr I I' ∧ RQs I' tp tl m' ∧ ∀ r, Ev X d 182 15 [.ref 177, .int (nI w), .int P, .int (nI x), .int (nI y), .int (nI n), .retAddr 0] [] (mk I' J) r → Ev X d 182 8 [.ref 177, .int (nI w), .int P, .int (nI x), .int (nI y), .retAddr 0, .retAddr 0] [] (mk I J) r
def RNf (X : Nat × (Nat → Int32)) (tp : Nat → Nat) (tl m w x y kk : Nat) : Prop := ∀ (d : Nat) (I : Nat → Nat → Int32) (J : Nat → Nat → Int64) (P : Int32), 15 ≤ d → RQs I tp tl m → ∃ I', RFl I I' kk (tpo tp tl m) ∧ Ev X d 182 8 [.ref 177, .int (nI w), .int P, .int (nI x), .int (nI y), .retAddr 0, .retAddr 0] [] (mk I J) (some (.int (nI 0)), mk I' J)
theorem nst_ {w x y : Nat} (hw : w < 4) (hx : x < 8) (hy : y < 8) (hm : m ≤ tkT tp tl) : (∃ kk, CNf X tp tl m (w + 256) x y kk ∧ RNf X tp tl m w x y kk) ∨ ∃ m' n, m ≤ m' ∧ m' ≤ tkT tp tl ∧ 1 ≤ n ∧ n ≤ 8 ∧ (w = 0 ∨ w = 3 → n = 1) ∧ (w = 1 → x + n ≤ 8) ∧ (w = 2 → y + n ≤ 8) ∧ CNs X tp tl m (w + 256) x y m' n ∧ RNs X tp tl m w x y m' n := by
  by_cases w1 : w = 1
  · subst w1
    rcases numS_ (X := X) (tp := tp) (tl := tl) (m := m) (a := 1) (b := 8 - x) (by decide) (by omega) with ⟨kk, c, r⟩ | ⟨k2, v1, v2⟩
    · refine Or.inl ⟨kk, fun d I J hd h => ?_, fun d I J P hd h => ?_⟩
      · obtain ⟨d, rfl⟩ : ∃ d', d = d' + 1 := ⟨d - 1, by omega⟩
        obtain ⟨I1, e1, f1⟩ := c d I J (by omega) h
        refine ⟨I1, ?_, f1⟩
        refine callF_of (by decide) (Nat.le_of_ble_eq_true rfl) ?_
        show Ev X d 56 0 [.ref 124, .int (nI (1 + 256)), .int (nI x), .int (nI y)] [] ( mk I J) _
        simp (disch := first | omega | assumption | exact rfl) only [U_56_0, U_56_1, XX, QQ, WW, KK, QX, SHs, RRs, Nat.reduceAdd, Nat.reduceMul, Nat.reduceLeDiff, Nat.reduceEqDiff, List.length_cons, List.length_nil, decide_true, decide_false, Bool.true_and, Bool.and_true, Bool.false_and, Bool.and_false, false_and, and_false, Bool.false_eq_true, Bool.true_eq_false, reduceCtorEq, eq_self, if_true, if_false, true_and, and_true, not_true_eq_false, not_false_eq_true, if_pos, if_neg, z_ite_not, false_or, or_false, true_or, or_true, SWs, swk_0, swk_1, e1]
      · obtain ⟨I1, e1, f1⟩ := r d I J hd h
        refine ⟨I1, f1, ?_⟩
        simp (disch := first | omega | assumption | exact rfl) only [U_182_8, U_182_10, U_182_11, U_182_13, U_182_14, XX, QQ, WW, KK, QX, SHs, RRs, Nat.reduceAdd, Nat.reduceMul, Nat.reduceLeDiff, Nat.reduceEqDiff, List.length_cons, List.length_nil, decide_true, decide_false, Bool.true_and, Bool.and_true, Bool.false_and, Bool.and_false, false_and, and_false, Bool.false_eq_true, Bool.true_eq_false, reduceCtorEq, eq_self, if_true, if_false, true_and, and_true, not_true_eq_false, not_false_eq_true, if_pos, if_neg, z_ite_not, false_or, or_false, true_or, or_true, SWs, swk_0, swk_1, e1]
    · have hm1 := psK_lt hm (by omega)
      refine Or.inr ⟨m + 1, psV tp tl m, by omega, hm1, v1, by omega, by omega, by omega, by omega, fun d I J hd h => ?_, fun d I J P hd h => ?_⟩
      · obtain ⟨d, rfl⟩ : ∃ d', d = d' + 1 := ⟨d - 1, by omega⟩
        obtain ⟨I1, e1, f1, s1⟩ := cs_numY (X := X) (d := d) (J := J) (by omega) h k2 v1 v2 (by omega)
        refine ⟨I1, ?_, f1, s1⟩
        refine callF_of (by decide) (Nat.le_of_ble_eq_true rfl) ?_
        show Ev X d 56 0 [.ref 124, .int (nI (1 + 256)), .int (nI x), .int (nI y)] [] ( mk I J) _
        simp (disch := first | omega | assumption | exact rfl) only [U_56_0, U_56_1, XX, QQ, WW, KK, QX, SHs, RRs, Nat.reduceAdd, Nat.reduceMul, Nat.reduceLeDiff, Nat.reduceEqDiff, List.length_cons, List.length_nil, decide_true, decide_false, Bool.true_and, Bool.and_true, Bool.false_and, Bool.and_false, false_and, and_false, Bool.false_eq_true, Bool.true_eq_false, reduceCtorEq, eq_self, if_true, if_false, true_and, and_true, not_true_eq_false, not_false_eq_true, if_pos, if_neg, z_ite_not, false_or, or_false, true_or, or_true, SWs, swk_0, swk_1, e1]
      · obtain ⟨I1, e1, f1, s1⟩ := rs_numY (X := X) (d := d) (J := J) hd h k2 v1 v2 (by omega)
        have g16 := (RQs_k h).2.2 k2
        refine ⟨I1, f1, s1, fun r Hr => ?_⟩
        simp (disch := first | omega | assumption | exact rfl) only [U_182_8, U_182_10, U_182_11, U_182_13, XX, QQ, WW, KK, QX, SHs, RRs, Nat.reduceAdd, Nat.reduceMul, Nat.reduceLeDiff, Nat.reduceEqDiff, List.length_cons, List.length_nil, decide_true, decide_false, Bool.true_and, Bool.and_true, Bool.false_and, Bool.and_false, false_and, and_false, Bool.false_eq_true, Bool.true_eq_false, reduceCtorEq, eq_self, if_true, if_false, true_and, and_true, not_true_eq_false, not_false_eq_true, if_pos, if_neg, z_ite_not, false_or, or_false, true_or, or_true, SWs, swk_0, swk_1, g16, e1]
        exact Hr
  · by_cases w2 : w = 2
    · subst w2
      rcases numS_ (X := X) (tp := tp) (tl := tl) (m := m) (a := 1) (b := 8 - y) (by decide) (by omega) with ⟨kk, c, r⟩ | ⟨k2, v1, v2⟩
      · refine Or.inl ⟨kk, fun d I J hd h => ?_, fun d I J P hd h => ?_⟩
        · obtain ⟨d, rfl⟩ : ∃ d', d = d' + 1 := ⟨d - 1, by omega⟩
          obtain ⟨I1, e1, f1⟩ := c d I J (by omega) h
          refine ⟨I1, ?_, f1⟩
          refine callF_of (by decide) (Nat.le_of_ble_eq_true rfl) ?_
          show Ev X d 56 0 [.ref 124, .int (nI (2 + 256)), .int (nI x), .int (nI y)] [] ( mk I J) _
          simp (disch := first | omega | assumption | exact rfl) only [U_56_0, U_56_2, U_56_3, U_56_5, XX, QQ, WW, KK, QX, SHs, RRs, Nat.reduceAdd, Nat.reduceMul, Nat.reduceLeDiff, Nat.reduceEqDiff, List.length_cons, List.length_nil, decide_true, decide_false, Bool.true_and, Bool.and_true, Bool.false_and, Bool.and_false, false_and, and_false, Bool.false_eq_true, Bool.true_eq_false, reduceCtorEq, eq_self, if_true, if_false, true_and, and_true, not_true_eq_false, not_false_eq_true, if_pos, if_neg, z_ite_not, false_or, or_false, true_or, or_true, SWs, swk_0, swk_1, e1]
        · obtain ⟨I1, e1, f1⟩ := r d I J hd h
          refine ⟨I1, f1, ?_⟩
          simp (disch := first | omega | assumption | exact rfl) only [U_182_8, U_182_9, U_182_10, U_182_12, U_182_13, U_182_14, XX, QQ, WW, KK, QX, SHs, RRs, Nat.reduceAdd, Nat.reduceMul, Nat.reduceLeDiff, Nat.reduceEqDiff, List.length_cons, List.length_nil, decide_true, decide_false, Bool.true_and, Bool.and_true, Bool.false_and, Bool.and_false, false_and, and_false, Bool.false_eq_true, Bool.true_eq_false, reduceCtorEq, eq_self, if_true, if_false, true_and, and_true, not_true_eq_false, not_false_eq_true, if_pos, if_neg, z_ite_not, false_or, or_false, true_or, or_true, SWs, swk_0, swk_1, e1]
      · have hm1 := psK_lt hm (by omega)
        refine Or.inr ⟨m + 1, psV tp tl m, by omega, hm1, v1, by omega, by omega, by omega, by omega, fun d I J hd h => ?_, fun d I J P hd h => ?_⟩
        · obtain ⟨d, rfl⟩ : ∃ d', d = d' + 1 := ⟨d - 1, by omega⟩
          obtain ⟨I1, e1, f1, s1⟩ := cs_numY (X := X) (d := d) (J := J) (by omega) h k2 v1 v2 (by omega)
          refine ⟨I1, ?_, f1, s1⟩
          refine callF_of (by decide) (Nat.le_of_ble_eq_true rfl) ?_
          show Ev X d 56 0 [.ref 124, .int (nI (2 + 256)), .int (nI x), .int (nI y)] [] ( mk I J) _
          simp (disch := first | omega | assumption | exact rfl) only [U_56_0, U_56_2, U_56_3, U_56_5, XX, QQ, WW, KK, QX, SHs, RRs, Nat.reduceAdd, Nat.reduceMul, Nat.reduceLeDiff, Nat.reduceEqDiff, List.length_cons, List.length_nil, decide_true, decide_false, Bool.true_and, Bool.and_true, Bool.false_and, Bool.and_false, false_and, and_false, Bool.false_eq_true, Bool.true_eq_false, reduceCtorEq, eq_self, if_true, if_false, true_and, and_true, not_true_eq_false, not_false_eq_true, if_pos, if_neg, z_ite_not, false_or, or_false, true_or, or_true, SWs, swk_0, swk_1, e1]
        · obtain ⟨I1, e1, f1, s1⟩ := rs_numY (X := X) (d := d) (J := J) hd h k2 v1 v2 (by omega)
          have g16 := (RQs_k h).2.2 k2
          refine ⟨I1, f1, s1, fun r Hr => ?_⟩
          simp (disch := first | omega | assumption | exact rfl) only [U_182_8, U_182_9, U_182_10, U_182_12, U_182_13, XX, QQ, WW, KK, QX, SHs, RRs, Nat.reduceAdd, Nat.reduceMul, Nat.reduceLeDiff, Nat.reduceEqDiff, List.length_cons, List.length_nil, decide_true, decide_false, Bool.true_and, Bool.and_true, Bool.false_and, Bool.and_false, false_and, and_false, Bool.false_eq_true, Bool.true_eq_false, reduceCtorEq, eq_self, if_true, if_false, true_and, and_true, not_true_eq_false, not_false_eq_true, if_pos, if_neg, z_ite_not, false_or, or_false, true_or, or_true, SWs, swk_0, swk_1, g16, e1]
          exact Hr
    · refine Or.inr ⟨m, 1, Nat.le_refl _, hm, by decide, by decide, fun _ => rfl, by omega, by omega, fun d I J hd h => ⟨I, ?_, CFr_refl I, h⟩, fun d I J P hd h => ⟨I, RFr_refl I, h, fun r Hr => ?_⟩⟩
      · obtain ⟨d, rfl⟩ : ∃ d', d = d' + 1 := ⟨d - 1, by omega⟩
        refine callF_of (by decide) (Nat.le_of_ble_eq_true rfl) ?_
        show Ev X d 56 0 [.ref 124, .int (nI (w + 256)), .int (nI x), .int (nI y)] [] ( mk I J) _
        have z1 : ¬ w + 256 = 257 := by omega
        have z2 : ¬ w + 256 = 258 := by omega
        simp (disch := first | omega | assumption | exact rfl) only [U_56_0, U_56_2, U_56_4, U_56_5, XX, QQ, WW, KK, QX, SHs, RRs, Nat.reduceAdd, Nat.reduceMul, Nat.reduceLeDiff, Nat.reduceEqDiff, List.length_cons, List.length_nil, decide_true, decide_false, Bool.true_and, Bool.and_true, Bool.false_and, Bool.and_false, false_and, and_false, Bool.false_eq_true, Bool.true_eq_false, reduceCtorEq, eq_self, if_true, if_false, true_and, and_true, not_true_eq_false, not_false_eq_true, if_pos, if_neg, z_ite_not, false_or, or_false, true_or, or_true, SWs, swk_0, swk_1, z1, z2]
      · simp (disch := first | omega | assumption | exact rfl) only [U_182_8, U_182_9, XX, QQ, WW, KK, QX, SHs, RRs, Nat.reduceAdd, Nat.reduceMul, Nat.reduceLeDiff, Nat.reduceEqDiff, List.length_cons, List.length_nil, decide_true, decide_false, Bool.true_and, Bool.and_true, Bool.false_and, Bool.and_false, false_and, and_false, Bool.false_eq_true, Bool.true_eq_false, reduceCtorEq, eq_self, if_true, if_false, true_and, and_true, not_true_eq_false, not_false_eq_true, if_pos, if_neg, z_ite_not, false_or, or_false, true_or, or_true, SWs, swk_0, swk_1, w1, w2]
        exact Hr
theorem gr_step1 {I : Nat → Nat → Int32} {F p p' : Nat} {b : Bool} {v : Int32} (h : GR I F) (e : p = p') (eb : v = bI b) : GR (va_up I 185 (va_up (I 185) p v)) (stF F p' b) := by
  subst e; subst eb; exact gr_step h
theorem r_shlp {X : Nat × (Nat → Int32)} {d : Nat} {I : Nat → Nat → Int32} {J : Nat → Nat → Int64} {w x y n F : Nat} {P : Int32} (hw : w < 4) (hx : x < 8) (hy : y < 8) (hn : n ≤ 8) (h0 : w = 0 ∨ w = 3 → n = 1) (h1 : w = 1 → x + n ≤ 8) (h2 : w = 2 → y + n ≤ 8) : ∀ i, i ≤ n → ∀ I : Nat → Nat → Int32, GR I (shFm (w + 256) (8 * y + x) F i) → ∃ I', (∀ a, a ≠ 185 → I' a = I a) ∧ GR I' (shFm (w + 256) (8 * y + x) F n) ∧ ∀ r, Ev X d 182 27 [.ref 177, .int (nI w), .int P, .int (nI x), .int (nI y), .int (nI n), .int (nI n)] [] (mk I' J) r → Ev X d 182 16 [.ref 177, .int (nI w), .int P, .int (nI x), .int (nI y), .int (nI n), .int (nI i)] [] (mk I J) r := by
  refine lpd (n := n) (fun I h => ⟨I, fun _ _ => rfl, h, fun r Hr => ?_⟩) (fun i hi ih I h => ?_)
  · simp (disch := first | omega | assumption | exact rfl) only [U_182_16, XX, QQ, WW, KK, QX, SHs, RRs, Nat.reduceAdd, Nat.reduceMul, Nat.reduceLeDiff, Nat.reduceEqDiff, List.length_cons, List.length_nil, decide_true, decide_false, Bool.true_and, Bool.and_true, Bool.false_and, Bool.and_false, false_and, and_false, Bool.false_eq_true, Bool.true_eq_false, reduceCtorEq, eq_self, if_true, if_false, true_and, and_true, not_true_eq_false, not_false_eq_true, if_pos, if_neg, z_ite_not, false_or, or_false, true_or, or_true, SWs, swk_0, swk_1]
    exact Hr
  · have i8 : i < 8 := by omega
    obtain rfl | rfl | rfl | rfl : w = 0 ∨ w = 1 ∨ w = 2 ∨ w = 3 := by omega
    · have ei : i = 0 := by have := h0 (Or.inl rfl); omega
      have z4 : 8 * y + x < 64 := by omega
      obtain ⟨I', f, g, H⟩ := ih _ (gr_step1 (p := 8 * y + x) (v := nI 1) (b := decide ((0 : Nat) + 256 ≠ 259)) h (by subst ei; simp) rfl)
      refine ⟨I', fun a ha => by rw [f a ha, vu_ne ha], g, fun r Hr => ?_⟩
      have := H r Hr
      rw [U_182_16]
      simp (disch := first | omega | assumption | exact rfl) only [U_182_17, U_182_19, U_182_20, U_182_22, U_182_23, U_182_24, U_182_26, XX, QQ, WW, KK, QX, SHs, RRs, Nat.reduceAdd, Nat.reduceMul, Nat.reduceLeDiff, Nat.reduceEqDiff, List.length_cons, List.length_nil, decide_true, decide_false, Bool.true_and, Bool.and_true, Bool.false_and, Bool.and_false, false_and, and_false, Bool.false_eq_true, Bool.true_eq_false, reduceCtorEq, eq_self, if_true, if_false, true_and, and_true, not_true_eq_false, not_false_eq_true, if_pos, if_neg, z_ite_not, false_or, or_false, true_or, or_true, SWs, swk_0, swk_1]
      exact this
    · have hh := h1 rfl
      have z4 : 8 * y + (x + i) < 64 := by omega
      obtain ⟨I', f, g, H⟩ := ih _ (gr_step1 (p := 8 * y + (x + i)) (v := nI 1) (b := decide ((1 : Nat) + 256 ≠ 259)) h (by simp [stpF]; omega) rfl)
      refine ⟨I', fun a ha => by rw [f a ha, vu_ne ha], g, fun r Hr => ?_⟩
      have := H r Hr
      rw [U_182_16]
      simp (disch := first | omega | assumption | exact rfl) only [U_182_17, U_182_19, U_182_20, U_182_21, U_182_23, U_182_24, U_182_26, XX, QQ, WW, KK, QX, SHs, RRs, Nat.reduceAdd, Nat.reduceMul, Nat.reduceLeDiff, Nat.reduceEqDiff, List.length_cons, List.length_nil, decide_true, decide_false, Bool.true_and, Bool.and_true, Bool.false_and, Bool.and_false, false_and, and_false, Bool.false_eq_true, Bool.true_eq_false, reduceCtorEq, eq_self, if_true, if_false, true_and, and_true, not_true_eq_false, not_false_eq_true, if_pos, if_neg, z_ite_not, false_or, or_false, true_or, or_true, SWs, swk_0, swk_1]
      exact this
    · have hh := h2 rfl
      have z4 : 8 * (y + i) + x < 64 := by omega
      obtain ⟨I', f, g, H⟩ := ih _ (gr_step1 (p := 8 * (y + i) + x) (v := nI 1) (b := decide ((2 : Nat) + 256 ≠ 259)) h (by simp [stpF]; omega) rfl)
      refine ⟨I', fun a ha => by rw [f a ha, vu_ne ha], g, fun r Hr => ?_⟩
      have := H r Hr
      rw [U_182_16]
      simp (disch := first | omega | assumption | exact rfl) only [U_182_17, U_182_18, U_182_20, U_182_22, U_182_23, U_182_24, U_182_26, XX, QQ, WW, KK, QX, SHs, RRs, Nat.reduceAdd, Nat.reduceMul, Nat.reduceLeDiff, Nat.reduceEqDiff, List.length_cons, List.length_nil, decide_true, decide_false, Bool.true_and, Bool.and_true, Bool.false_and, Bool.and_false, false_and, and_false, Bool.false_eq_true, Bool.true_eq_false, reduceCtorEq, eq_self, if_true, if_false, true_and, and_true, not_true_eq_false, not_false_eq_true, if_pos, if_neg, z_ite_not, false_or, or_false, true_or, or_true, SWs, swk_0, swk_1]
      exact this
    · have ei : i = 0 := by have := h0 (Or.inr rfl); omega
      have z4 : 8 * y + x < 64 := by omega
      obtain ⟨I', f, g, H⟩ := ih _ (gr_step1 (p := 8 * y + x) (v := nI 0) (b := decide ((3 : Nat) + 256 ≠ 259)) h (by subst ei; simp) rfl)
      refine ⟨I', fun a ha => by rw [f a ha, vu_ne ha], g, fun r Hr => ?_⟩
      have := H r Hr
      rw [U_182_16]
      simp (disch := first | omega | assumption | exact rfl) only [U_182_17, U_182_19, U_182_20, U_182_22, U_182_23, U_182_25, U_182_26, XX, QQ, WW, KK, QX, SHs, RRs, Nat.reduceAdd, Nat.reduceMul, Nat.reduceLeDiff, Nat.reduceEqDiff, List.length_cons, List.length_nil, decide_true, decide_false, Bool.true_and, Bool.and_true, Bool.false_and, Bool.and_false, false_and, and_false, Bool.false_eq_true, Bool.true_eq_false, reduceCtorEq, eq_self, if_true, if_false, true_and, and_true, not_true_eq_false, not_false_eq_true, if_pos, if_neg, z_ite_not, false_or, or_false, true_or, or_true, SWs, swk_0, swk_1]
      exact this
end SHN
