/-! ===== a line of a rule: the draft's rows, the reference's rows ===== -/
def fltS : List (Nat × Nat × List (Nat × Nat)) → List (Nat × Nat)
  | [] => []
  | q :: l => q.2.2 ++ fltS l
theorem fltS_app (a b : List (Nat × Nat × List (Nat × Nat))) : fltS (a ++ b) = fltS a ++ fltS b := by
  induction a with
  | nil => rfl
  | cons q a ih => rw [List.cons_append, fltS, fltS, ih, List.append_assoc]
def lnD (D : List (Nat × Nat × List (Nat × Nat))) (i : Nat) : Nat × Nat × List (Nat × Nat) := D.getD i (0, 0, [])
/-- class: rows of the lines D -/
def CDr (I : Nat → Nat → Int32) (D : List (Nat × Nat × List (Nat × Nat))) : Prop := I 129 0 = nI D.length ∧ ∀ i, i < D.length → I 130 i = nI (lnD D i).1 ∧ I 131 i = nI (lnD D i).2.1 ∧ I 132 i = nI (segC (fltS (D.take i))).length ∧ I 133 i = nI ((segC (fltS (D.take i))).length + (segC (lnD D i).2.2).length)
/-- reference: rows of the lines D -/
def RDr (I : Nat → Nat → Int32) (D : List (Nat × Nat × List (Nat × Nat))) : Prop := ∀ i, i < D.length → I 180 (4 * i) = nI (lnD D i).1 ∧ ((lnD D i).1 = 1 → I 180 (4 * i + 1) = nI (lnD D i).2.1) ∧ I 180 (4 * i + 2) = nI (fltS (D.take i)).length ∧ I 180 (4 * i + 3) = nI ((fltS (D.take i)).length + (lnD D i).2.2.length)
theorem lnD_l {D : List (Nat × Nat × List (Nat × Nat))} {q : Nat × Nat × List (Nat × Nat)} {i : Nat} (h : i < D.length) : lnD (D ++ [q]) i = lnD D i ∧ (D ++ [q]).take i = D.take i := by
  refine ⟨gd_l h, ?_⟩
  rw [List.take_append_of_le_length (by omega)]
theorem lnD_r {D : List (Nat × Nat × List (Nat × Nat))} {q : Nat × Nat × List (Nat × Nat)} : lnD (D ++ [q]) D.length = q ∧ (D ++ [q]).take D.length = D := by
  refine ⟨gd_r, ?_⟩
  rw [List.take_append_of_le_length (Nat.le_refl _), List.take_length]
theorem CDr_snoc {I I' : Nat → Nat → Int32} {D : List (Nat × Nat × List (Nat × Nat))} {way by_ : Nat} {S : List (Nat × Nat)} (h : CDr I D) (h0 : I' 129 0 = nI (D.length + 1)) (h1 : ∀ c, c < 4 → ∀ i, i < D.length → I' (130 + c) i = I (130 + c) i) (r1 : I' 130 D.length = nI way) (r2 : I' 131 D.length = nI by_) (r3 : I' 132 D.length = nI (segC (fltS D)).length) (r4 : I' 133 D.length = nI ((segC (fltS D)).length + (segC S).length)) : CDr I' (D ++ [(way, by_, S)]) := by
  refine ⟨by rw [h0, List.length_append]; rfl, fun i hi => ?_⟩
  rw [List.length_append, List.length_cons, List.length_nil] at hi
  by_cases z : i = D.length
  · subst z
    rw [lnD_r.1, lnD_r.2]
    exact ⟨r1, r2, r3, r4⟩
  · rw [(lnD_l (by omega)).1, (lnD_l (by omega)).2, h1 0 (by decide) i (by omega), h1 1 (by decide) i (by omega), h1 2 (by decide) i (by omega), h1 3 (by decide) i (by omega)]
    exact h.2 i (by omega)
theorem RDr_snoc {I I' : Nat → Nat → Int32} {D : List (Nat × Nat × List (Nat × Nat))} {way by_ : Nat} {S : List (Nat × Nat)} (h : RDr I D) (h1 : ∀ i, i < 4 * D.length → I' 180 i = I 180 i) (r1 : I' 180 (4 * D.length) = nI way) (r2 : way = 1 → I' 180 (4 * D.length + 1) = nI by_) (r3 : I' 180 (4 * D.length + 2) = nI (fltS D).length) (r4 : I' 180 (4 * D.length + 3) = nI ((fltS D).length + S.length)) : RDr I' (D ++ [(way, by_, S)]) := by
  intro i hi
  rw [List.length_append, List.length_cons, List.length_nil] at hi
  by_cases z : i = D.length
  · subst z
    rw [lnD_r.1, lnD_r.2]
    exact ⟨r1, r2, r3, r4⟩
  · rw [(lnD_l (by omega)).1, (lnD_l (by omega)).2, h1 _ (by omega), h1 _ (by omega), h1 _ (by omega), h1 _ (by omega)]
    exact h i (by omega)
theorem CPs_fr {I I' : Nat → Nat → Int32} {tp : Nat → Nat} {tl m : Nat} {W : List Int32} (f : ∀ a, 125 ≤ a → a ≤ 134 → a ≠ 129 → a ≠ 130 → a ≠ 131 → a ≠ 132 → a ≠ 133 → I' a = I a) (f5 : I' 129 5 = I 129 5) (h : CPs I tp tl m W) : CPs I' tp tl m W := by
  obtain ⟨h1, h2, h3, h4, h5, h6, h7, h9⟩ := h
  refine ⟨h1, ?_, fun j hj => ?_, ?_, h5, ?_, ?_, h9⟩
  · rw [f 125 (by decide) (by decide) (by decide) (by decide) (by decide) (by decide) (by decide)]; exact h2
  · rw [f 126 (by decide) (by decide) (by decide) (by decide) (by decide) (by decide) (by decide), f 127 (by decide) (by decide) (by decide) (by decide) (by decide) (by decide) (by decide), f 128 (by decide) (by decide) (by decide) (by decide) (by decide) (by decide) (by decide)]; exact h3 j hj
  · unfold CURc; rw [f 125 (by decide) (by decide) (by decide) (by decide) (by decide) (by decide) (by decide)]; exact h4
  · rw [f5]; exact h6
  · rw [f 134 (by decide) (by decide) (by decide) (by decide) (by decide) (by decide) (by decide)]; exact h7
theorem RPs_fr {I I' : Nat → Nat → Int32} {tp : Nat → Nat} {tl m o : Nat} {Q : List (Nat × Nat)} (f1 : I' 177 = I 177) (f2 : I' 181 = I 181) (f3 : I' 182 = I 182) (h : RPs I tp tl m Q o) : RPs I' tp tl m Q o := by
  obtain ⟨h1, ⟨w, w1, w2, w3⟩, h3, h4, h5, h6, h8⟩ := h
  refine ⟨⟨h1.1, ?_, fun i hi => ?_⟩, ⟨w, w1, w2, ?_⟩, ?_, h4, ?_, ?_, ?_⟩
  · rw [f1]; exact h1.2.1
  · rw [f3]; exact h1.2.2 i hi
  · rw [f1]; exact w3
  · unfold RCur; rw [f1]; exact h3
  · rw [f1]; exact h5
  · rw [f2]; exact h6
  · rw [f1]; exact h8
theorem c_opn {X : Nat × (Nat → Int32)} {d : Nat} {I : Nat → Nat → Int32} {J : Nat → Nat → Int64} {L way by_ n : Nat} (hd : 1 ≤ d) (h0 : I 129 0 = nI L) (hL : L < 16) (h5 : I 129 5 = nI n) : callF X d 68 [.ref 129, .int (nI way), .int (nI by_)] (mk I J) = some (none, mk (va_up (va_up (va_up I 130 (va_up (I 130) L (nI way))) 131 (va_up (I 131) L (nI by_))) 132 (va_up (I 132) L (nI n))) J) := by
  refine callF_at (by omega) (by decide) (Nat.le_of_ble_eq_true rfl) (fun d _ => ?_)
  show Ev X d 68 0 [.ref 129, .int (nI way), .int (nI by_)] [] ( mk I J) _
  simp (disch := first | omega | assumption | exact rfl) only [U_68_0, U_68_1, U_68_2, XX, QQ, WW, KK, QX, SHs, RRs, Nat.reduceAdd, Nat.reduceMul, Nat.reduceLeDiff, Nat.reduceEqDiff, List.length_cons, List.length_nil, decide_true, decide_false, Bool.true_and, Bool.and_true, Bool.false_and, Bool.and_false, false_and, and_false, Bool.false_eq_true, Bool.true_eq_false, reduceCtorEq, eq_self, if_true, if_false, true_and, and_true, not_true_eq_false, not_false_eq_true, if_pos, if_neg, z_ite_not, false_or, or_false, true_or, or_true, SWs, swk_0, swk_1, h0, h5]
theorem c_cls {X : Nat × (Nat → Int32)} {d : Nat} {I : Nat → Nat → Int32} {J : Nat → Nat → Int64} {L n : Nat} (hd : 1 ≤ d) (h0 : I 129 0 = nI L) (hL : L < 16) (h5 : I 129 5 = nI n) : callF X d 69 [.ref 129] (mk I J) = some (none, mk (va_up (va_up I 133 (va_up (I 133) L (nI n))) 129 (va_up (I 129) 0 (nI (L + 1)))) J) := by
  refine callF_at (by omega) (by decide) (Nat.le_of_ble_eq_true rfl) (fun d _ => ?_)
  show Ev X d 69 0 [.ref 129] [] ( mk I J) _
  simp (disch := first | omega | assumption | exact rfl) only [U_69_0, U_69_1, U_69_2, XX, QQ, WW, KK, QX, SHs, RRs, Nat.reduceAdd, Nat.reduceMul, Nat.reduceLeDiff, Nat.reduceEqDiff, List.length_cons, List.length_nil, decide_true, decide_false, Bool.true_and, Bool.and_true, Bool.false_and, Bool.and_false, false_and, and_false, Bool.false_eq_true, Bool.true_eq_false, reduceCtorEq, eq_self, if_true, if_false, true_and, and_true, not_true_eq_false, not_false_eq_true, if_pos, if_neg, z_ite_not, false_or, or_false, true_or, or_true, SWs, swk_0, swk_1, h0, h5]
