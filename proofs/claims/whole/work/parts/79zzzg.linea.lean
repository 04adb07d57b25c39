/-! ===== a line of a rule, both sides ===== -/
section LNA
variable {X : Nat × (Nat → Int32)} {tp : Nat → Nat} {tl m L : Nat}
def CHd (X : Nat × (Nat → Int32)) (tp : Nat → Nat) (tl m m1 L w b : Nat) : Prop := ∀ (d : Nat) (I : Nat → Nat → Int32) (J : Nat → Nat → Int64) (W : List Int32), 2 ≤ d → CPs I tp tl m W → ∃ I1, CFr I I1 ∧ CPs I1 tp tl m1 W ∧ ∀ r, Ev X d 59 9 [.ref 124, .int (nI L), .int (nI w), .int (nI b)] [] (mk I1 J) r → callF X (d + 1) 59 [.ref 124, .int (nI L)] (mk I J) = some r
def RHd (X : Nat × (Nat → Int32)) (tp : Nat → Nat) (tl m m1 L w b : Nat) : Prop := ∀ (d : Nat) (I : Nat → Nat → Int32) (J : Nat → Nat → Int64) (Q : List (Nat × Nat)) (o : Nat), 15 ≤ d → RPs I tp tl m Q o → I 177 10 = nI L → ∃ I1, RFq I I1 ∧ RPs I1 tp tl m1 Q 0 ∧ (∀ i, i < 4 * L → I1 180 i = I 180 i) ∧ I1 180 (4 * L) = nI w ∧ (w = 1 → I1 180 (4 * L + 1) = nI b) ∧ ∀ r, Ev X d 180 7 [.ref 177, .int (nI w)] [] (mk I1 J) r → callF X (d + 1) 180 [.ref 177] (mk I J) = some r
theorem chd_0 {w : Nat} (hL : L < 16) (ew : psK tp tl m = w + 260) (w7 : w < 7) (w1 : w ≠ 1) : CHd X tp tl m (m + 1) L w 0 := by
  intro d I J W hd h
  obtain ⟨I1, f1, s1, H, _⟩ := c_head (X := X) (J := J) hd hL h ew w7
  exact ⟨I1, f1, s1, H w1⟩
theorem chd_1 (hL : L < 16) (ew : psK tp tl m = 261) (k2 : psK tp tl (m + 1) = 2) : CHd X tp tl m (m + 2) L 1 (psV tp tl (m + 1)) := by
  intro d I J W hd h
  have vb := psV_b (tp := tp) (tl := tl) (m := m + 1)
  obtain ⟨I1, f1, s1, _, H⟩ := c_head (X := X) (J := J) (w := 1) hd hL h (by omega) (by decide)
  obtain ⟨I2, e2, f2, s2⟩ := c_numY (X := X) (d := d) (J := J) (a := 0) (b := 9999) hd s1 k2 (by omega) vb (by decide)
  refine ⟨I2, CFr_trans f1 f2, s2, fun r Hr => H rfl r ?_⟩
  have z : ¬ nI (psV tp tl (m + 1)) = -1 := nI_ne (by omega)
  simp (disch := first | omega | assumption | exact rfl) only [U_59_5, U_59_7, XX, QQ, WW, KK, QX, SHs, RRs, Nat.reduceAdd, Nat.reduceMul, Nat.reduceLeDiff, Nat.reduceEqDiff, List.length_cons, List.length_nil, decide_true, decide_false, Bool.true_and, Bool.and_true, Bool.false_and, Bool.and_false, false_and, and_false, Bool.false_eq_true, Bool.true_eq_false, reduceCtorEq, eq_self, if_true, if_false, true_and, and_true, not_true_eq_false, not_false_eq_true, if_pos, if_neg, z_ite_not, false_or, or_false, true_or, or_true, SWs, swk_0, swk_1, e2, z]
  exact Hr
theorem clf_1 (hL : L < 16) (ew : psK tp tl m = 261) (k2 : psK tp tl (m + 1) ≠ 2) {d : Nat} {I : Nat → Nat → Int32} {J : Nat → Nat → Int64} {W : List Int32} (hd : 2 ≤ d) (h : CPs I tp tl m W) : ∃ I', callF X (d + 1) 59 [.ref 124, .int (nI L)] (mk I J) = some (some (.int (nI 0)), mk I' J) ∧ CFl I I' 1 (tpo tp tl (m + 1)) := by
  obtain ⟨I1, f1, s1, _, H⟩ := c_head (X := X) (J := J) (w := 1) hd hL h (by omega) (by decide)
  obtain ⟨I2, e2, f2⟩ := c_numF (X := X) (d := d) (J := J) (a := 0) (b := 9999) hd s1 k2
  refine ⟨I2, H rfl _ ?_, CFl_after f1 f2⟩
  simp (disch := first | omega | assumption | exact rfl) only [U_59_5, U_59_7, U_59_8, XX, QQ, WW, KK, QX, SHs, RRs, Nat.reduceAdd, Nat.reduceMul, Nat.reduceLeDiff, Nat.reduceEqDiff, List.length_cons, List.length_nil, decide_true, decide_false, Bool.true_and, Bool.and_true, Bool.false_and, Bool.and_false, false_and, and_false, Bool.false_eq_true, Bool.true_eq_false, reduceCtorEq, eq_self, if_true, if_false, true_and, and_true, not_true_eq_false, not_false_eq_true, if_pos, if_neg, z_ite_not, false_or, or_false, true_or, or_true, SWs, swk_0, swk_1, e2]
theorem rhd_0 {w : Nat} (hL : L < 16) (ew : psK tp tl m = w + 260) (w7 : w < 7) (w1 : w ≠ 1) : RHd X tp tl m (m + 1) L w 0 := by
  intro d I J Q o hd h h10
  obtain ⟨I1, f1, s1, H, _⟩ := r_head (X := X) (d := d) (J := J) (by omega) hL h h10 ew w7
  refine ⟨_, RFq_t (RFq_r f1) RFq_180, RPs_180 s1, fun i hi => ?_, ?_, fun z => absurd z w1, H w1⟩
  · rw [vu_eq, vu_ne (by omega), vu_ne (by omega), f1.1 180 (by decide) (by decide)]
  · rw [vu_eq, vu_ne (by omega), vu_eq]
theorem rhd_1 (hL : L < 16) (ew : psK tp tl m = 261) (k2 : psK tp tl (m + 1) = 2) : RHd X tp tl m (m + 2) L 1 (psV tp tl (m + 1)) := by
  intro d I J Q o hd h h10
  have vb := psV_b (tp := tp) (tl := tl) (m := m + 1)
  obtain ⟨I1, f1, s1, _, H⟩ := r_head (X := X) (d := d) (J := J) (w := 1) (by omega) hL h h10 (by omega) (by decide)
  obtain ⟨k5, k6, k7⟩ := RPs_k s1
  obtain ⟨I2, e2, f2, s2⟩ := r_numY (X := X) (d := d) (J := J) (a := 0) (b := 9999) hd (RPs_180 (g := va_up (va_up (I1 180) (4 * L) (nI 1)) (4 * L + 1) (I1 177 16)) s1) k2 (by omega) vb (by decide)
  have q := f2.1 180 (by decide) (by decide)
  rw [vu_eq] at q
  refine ⟨I2, RFq_t (RFq_r f1) (RFq_t RFq_180 (RFq_r f2)), s2, fun i hi => ?_, ?_, fun _ => ?_, fun r Hr => H rfl r ?_⟩
  · rw [q, vu_ne (by omega), vu_ne (by omega), f1.1 180 (by decide) (by decide)]
  · rw [q, vu_ne (by omega), vu_eq]
  · rw [q, vu_eq]; exact k7 k2
  · simp (disch := first | omega | assumption | exact rfl) only [U_180_5, XX, QQ, WW, KK, QX, SHs, RRs, Nat.reduceAdd, Nat.reduceMul, Nat.reduceLeDiff, Nat.reduceEqDiff, List.length_cons, List.length_nil, decide_true, decide_false, Bool.true_and, Bool.and_true, Bool.false_and, Bool.and_false, false_and, and_false, Bool.false_eq_true, Bool.true_eq_false, reduceCtorEq, eq_self, if_true, if_false, true_and, and_true, not_true_eq_false, not_false_eq_true, if_pos, if_neg, z_ite_not, false_or, or_false, true_or, or_true, SWs, swk_0, swk_1, e2]
    exact Hr
theorem rlf_1 (hL : L < 16) (ew : psK tp tl m = 261) (k2 : psK tp tl (m + 1) ≠ 2) {d : Nat} {I : Nat → Nat → Int32} {J : Nat → Nat → Int64} {Q : List (Nat × Nat)} {o : Nat} (hd : 15 ≤ d) (h : RPs I tp tl m Q o) (h10 : I 177 10 = nI L) : ∃ I', callF X (d + 1) 180 [.ref 177] (mk I J) = some (some (.int (nI 0)), mk I' J) ∧ RFk I I' 1 (tpo tp tl (m + 1)) := by
  obtain ⟨I1, f1, s1, _, H⟩ := r_head (X := X) (d := d) (J := J) (w := 1) (by omega) hL h h10 (by omega) (by decide)
  obtain ⟨I2, e2, f2⟩ := r_numF (X := X) (d := d) (J := J) (a := 0) (b := 9999) hd (RPs_180 (g := va_up (va_up (I1 180) (4 * L) (nI 1)) (4 * L + 1) (I1 177 16)) s1) k2
  refine ⟨I2, H rfl _ ?_, RFk_t (RFq_r f1) (RFk_t RFq_180 (RFk_l f2))⟩
  simp (disch := first | omega | assumption | exact rfl) only [U_180_5, U_180_6, XX, QQ, WW, KK, QX, SHs, RRs, Nat.reduceAdd, Nat.reduceMul, Nat.reduceLeDiff, Nat.reduceEqDiff, List.length_cons, List.length_nil, decide_true, decide_false, Bool.true_and, Bool.and_true, Bool.false_and, Bool.and_false, false_and, and_false, Bool.false_eq_true, Bool.true_eq_false, reduceCtorEq, eq_self, if_true, if_false, true_and, and_true, not_true_eq_false, not_false_eq_true, if_pos, if_neg, z_ite_not, false_or, or_false, true_or, or_true, SWs, swk_0, swk_1, e2]
def CLf (X : Nat × (Nat → Int32)) (tp : Nat → Nat) (tl m L k p : Nat) : Prop := ∀ (d : Nat) (I : Nat → Nat → Int32) (J : Nat → Nat → Int64) (D : List (Nat × Nat × List (Nat × Nat))), 41 ≤ d → D.length = L → CPs I tp tl m (segC (fltS D)) → (segC (fltS D)).length ≤ m → CDr I D → ∃ I', callF X d 59 [.ref 124, .int (nI L)] (mk I J) = some (some (.int (nI 0)), mk I' J) ∧ CFl I I' k p
def CLn (X : Nat × (Nat → Int32)) (tp : Nat → Nat) (tl m L m' : Nat) (q : Nat × Nat × List (Nat × Nat)) : Prop := ∀ (d : Nat) (I : Nat → Nat → Int32) (J : Nat → Nat → Int64) (D : List (Nat × Nat × List (Nat × Nat))), 41 ≤ d → D.length = L → CPs I tp tl m (segC (fltS D)) → (segC (fltS D)).length ≤ m → CDr I D → ∃ I', callF X d 59 [.ref 124, .int (nI L)] (mk I J) = some (some (.int (nI 1)), mk I' J) ∧ CFq I I' ∧ CPs I' tp tl m' (segC (fltS (D ++ [q]))) ∧ CDr I' (D ++ [q])
def RLf (X : Nat × (Nat → Int32)) (tp : Nat → Nat) (tl m L k p : Nat) : Prop := ∀ (d : Nat) (I : Nat → Nat → Int32) (J : Nat → Nat → Int64) (D : List (Nat × Nat × List (Nat × Nat))) (o : Nat), 47 ≤ d → D.length = L → RPs I tp tl m (fltS D) o → (fltS D).length ≤ m → I 177 10 = nI L → RDr I D → ∃ I', callF X d 180 [.ref 177] (mk I J) = some (some (.int (nI 0)), mk I' J) ∧ RFk I I' k p
def RLn (X : Nat × (Nat → Int32)) (tp : Nat → Nat) (tl m L m' : Nat) (q : Nat × Nat × List (Nat × Nat)) : Prop := ∀ (d : Nat) (I : Nat → Nat → Int32) (J : Nat → Nat → Int64) (D : List (Nat × Nat × List (Nat × Nat))) (o : Nat), 47 ≤ d → D.length = L → RPs I tp tl m (fltS D) o → (fltS D).length ≤ m → I 177 10 = nI L → RDr I D → ∃ I', callF X d 180 [.ref 177] (mk I J) = some (some (.int (nI 1)), mk I' J) ∧ RFq I I' ∧ RPs I' tp tl m' (fltS (D ++ [q])) 0 ∧ RDr I' (D ++ [q])
theorem fltS_s {D : List (Nat × Nat × List (Nat × Nat))} {w b : Nat} {S : List (Nat × Nat)} : fltS (D ++ [(w, b, S)]) = fltS D ++ S := by
  rw [fltS_app]; show _ ++ (S ++ []) = _; rw [List.append_nil]
theorem cln_ {m1 m' w b : Nat} {S : List (Nat × Nat)} (hL : L < 16) (mm : m ≤ m1) (h1 : CHd X tp tl m m1 L w b) (h2 : CtT X tp tl m1 m' S) : CLn X tp tl m L m' (w, b, S) := by
  intro d I J D hd eD h hl hD
  obtain ⟨d, rfl⟩ : ∃ d', d = d' + 1 := ⟨d - 1, by omega⟩
  obtain ⟨I1, f1, s1, H⟩ := h1 d I J _ (by omega) h
  have g0 : I1 129 0 = nI L := by rw [f1.2 0 (by decide), hD.1, eD]
  obtain ⟨I2, f2, s2, p0, p1, p2, p3, p4, p5, E⟩ := h2 d I1 J _ L w b (by omega) hL s1 (by omega) g0
  subst eD
  refine ⟨I2, H _ E, CFq_t (CFq_r f1) f2, ?_, CDr_snoc hD p0 (fun c hc i hi => ?_) p2 p3 p4 p5⟩
  · rw [fltS_s, segC_app]; exact s2
  · rw [p1 c hc i hi, f1.1 _ (by omega) (by omega) (by omega)]
theorem clf_ {m1 w b k p : Nat} (hL : L < 16) (mm : m ≤ m1) (h1 : CHd X tp tl m m1 L w b) (h2 : CtF X tp tl m1 k p) : CLf X tp tl m L k p := by
  intro d I J D hd eD h hl hD
  obtain ⟨d, rfl⟩ : ∃ d', d = d' + 1 := ⟨d - 1, by omega⟩
  obtain ⟨I1, f1, s1, H⟩ := h1 d I J _ (by omega) h
  have g0 : I1 129 0 = nI L := by rw [f1.2 0 (by decide), hD.1, eD]
  obtain ⟨I2, f2, E⟩ := h2 d I1 J _ L w b (by omega) hL s1 (by omega) g0
  exact ⟨I2, H _ E, CFl_after f1 f2⟩
theorem rln_ {m1 m' w b : Nat} {S : List (Nat × Nat)} (hL : L < 16) (mm : m ≤ m1) (h1 : RHd X tp tl m m1 L w b) (h2 : RtT X tp tl m1 m' S) : RLn X tp tl m L m' (w, b, S) := by
  intro d I J D o hd eD h hl h10 hD
  obtain ⟨d, rfl⟩ : ∃ d', d = d' + 1 := ⟨d - 1, by omega⟩
  obtain ⟨I1, f1, s1, q1, q2, q3, H⟩ := h1 d I J _ o (by omega) h h10
  have g10 : I1 177 10 = nI L := by rw [f1.2 10 (by decide) (by decide) (by decide) (by decide) (by decide) (by decide) (by decide)]; exact h10
  obtain ⟨I2, f2, s2, p1, p2, p3, E⟩ := h2 d I1 J _ L (nI w) (by omega) hL s1 (by omega) g10
  subst eD
  refine ⟨I2, H _ E, RFq_t f1 f2, ?_, RDr_snoc hD (fun i hi => ?_) ?_ (fun z => ?_) p2 p3⟩
  · rw [fltS_s]; exact s2
  · rw [p1 i (by omega), q1 i hi]
  · rw [p1 _ (by omega), q2]
  · rw [p1 _ (by omega), q3 z]
theorem rlf_ {m1 w b k p : Nat} (hL : L < 16) (mm : m ≤ m1) (h1 : RHd X tp tl m m1 L w b) (h2 : RtF X tp tl m1 k p) : RLf X tp tl m L k p := by
  intro d I J D o hd eD h hl h10 hD
  obtain ⟨d, rfl⟩ : ∃ d', d = d' + 1 := ⟨d - 1, by omega⟩
  obtain ⟨I1, f1, s1, q1, q2, q3, H⟩ := h1 d I J _ o (by omega) h h10
  have g10 : I1 177 10 = nI L := by rw [f1.2 10 (by decide) (by decide) (by decide) (by decide) (by decide) (by decide) (by decide)]; exact h10
  obtain ⟨I2, f2, E⟩ := h2 d I1 J _ L (nI w) (by omega) hL s1 (by omega) g10
  exact ⟨I2, H _ E, RFk_t f1 f2⟩
theorem lnF_c {k p : Nat} (h : lnF X tp tl m L k p) : CLf X tp tl m L k p ∧ RLf X tp tl m L k p := ⟨fun d I J D hd _ s _ _ => h.1 d I J _ (by omega) s, fun d I J D o hd _ s _ h10 _ => h.2 d I J _ o (by omega) s h10⟩
theorem line_ (hL : L ≤ 16) (hm : m ≤ tkT tp tl) : (∃ k p, CLf X tp tl m L k p ∧ RLf X tp tl m L k p) ∨ (L < 16 ∧ ∃ m' w b S, m' ≤ tkT tp tl ∧ m < m' ∧ (segC S).length + m ≤ m' ∧ w < 7 ∧ b ≤ 9999 ∧ (S = [] ∨ ak S [] = some [true]) ∧ CLn X tp tl m L m' (w, b, S) ∧ RLn X tp tl m L m' (w, b, S)) := by
  by_cases kn : 260 ≤ psK tp tl m ∧ psK tp tl m < 267
  · by_cases l16 : L = 16
    · subst l16
      exact Or.inl ⟨_, _, lnF_c (lineH_M kn)⟩
    · have hL' : L < 16 := by omega
      obtain ⟨w, ew⟩ : ∃ w, psK tp tl m = w + 260 := ⟨psK tp tl m - 260, by omega⟩
      have w7 : w < 7 := by omega
      have hm1 := psK_lt hm (by omega)
      by_cases w1 : w = 1
      · subst w1
        by_cases k2 : psK tp tl (m + 1) = 2
        · have hm2 := psK_lt (m := m + 1) hm1 (by omega)
          have vb := psV_b (tp := tp) (tl := tl) (m := m + 1)
          have hc := chd_1 (X := X) hL' ew k2
          have hr := rhd_1 (X := X) hL' ew k2
          rcases lineT (X := X) (tp := tp) (tl := tl) (m := m + 2) (by omega) with ⟨k, p, a, b⟩ | ⟨m', S, b1, b2, b3, b4, a, b⟩
          · exact Or.inl ⟨k, p, clf_ hL' (by omega) hc a, rlf_ hL' (by omega) hr b⟩
          · exact Or.inr ⟨hL', m', 1, _, S, b1, by omega, by omega, by decide, vb, b4, cln_ hL' (by omega) hc a, rln_ hL' (by omega) hr b⟩
        · refine Or.inl ⟨1, tpo tp tl (m + 1), fun d I J D hd _ s _ _ => ?_, fun d I J D o hd _ s _ h10 _ => ?_⟩
          · obtain ⟨d, rfl⟩ : ∃ d', d = d' + 1 := ⟨d - 1, by omega⟩
            exact clf_1 hL' ew k2 (by omega) s
          · obtain ⟨d, rfl⟩ : ∃ d', d = d' + 1 := ⟨d - 1, by omega⟩
            exact rlf_1 hL' ew k2 (by omega) s h10
      · have hc := chd_0 (X := X) hL' ew w7 w1
        have hr := rhd_0 (X := X) hL' ew w7 w1
        rcases lineT (X := X) (tp := tp) (tl := tl) (m := m + 1) (by omega) with ⟨k, p, a, b⟩ | ⟨m', S, b1, b2, b3, b4, a, b⟩
        · exact Or.inl ⟨k, p, clf_ hL' (by omega) hc a, rlf_ hL' (by omega) hr b⟩
        · exact Or.inr ⟨hL', m', w, 0, S, b1, by omega, by omega, w7, by omega, b4, cln_ hL' (by omega) hc a, rln_ hL' (by omega) hr b⟩
  · exact Or.inl ⟨_, _, lnF_c (lineH_F hL kn)⟩
end LNA
