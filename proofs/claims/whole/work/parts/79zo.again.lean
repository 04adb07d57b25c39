/-! ===== again ===== -/
def bcR (f t : Nat → Int32) (a k : Nat) : Nat → Int32 := fun i => if 668 + 24 * a ≤ i ∧ i < 668 + 24 * a + k then t (i - (668 + 24 * a)) else f i
theorem bcR_0 {f t : Nat → Int32} {a : Nat} : bcR f t a 0 = f := by funext i; unfold bcR; rw [if_neg (by omega)]
theorem bcR_s {f t : Nat → Int32} {a k : Nat} : va_up (bcR f t a k) (668 + 24 * a + k) (t k) = bcR f t a (k + 1) := by
  funext i
  unfold bcR
  by_cases z : i = 668 + 24 * a + k
  · subst z; rw [vu_eq, if_pos (by omega)]; congr 1; omega
  · rw [vu_ne z]
    by_cases y : 668 + 24 * a ≤ i ∧ i < 668 + 24 * a + k
    · rw [if_pos y, if_pos (by omega)]
    · rw [if_neg y, if_neg (by omega)]
theorem r_becomes {X : Nat × (Nat → Int32)} {d : Nat} {I : Nat → Nat → Int32} {J : Nat → Nat → Int64} {b s F : Nat} {T : Nat → Int32} (hd : 2 ≤ d) (hb : b < 6) (hs : s < 6) (hS : RSh (I 178) s F) (hT : ∀ k, k < 24 → I 188 k = T k) (hW : WB T (pop F)) :
    ∃ g, callF X d 226 [.ref 177, .int (nI b), .int (nI s)] (mk I J) = some (none, mk (va_up I 178 g) J) ∧ RWl g b F T ∧ ∀ i, ¬ inA b i → g i = I 178 i := by
  have h24 := hS.1
  obtain ⟨d, rfl⟩ : ∃ d', d = d' + 1 := ⟨d - 1, by omega⟩
  have sh := r_shapes (X := X) (d := d) (I := I) (J := J) (a := b) (s := s) (by omega) hb hs
  obtain ⟨f, ef⟩ : ∃ f, f = shR (I 178) b s 24 := ⟨_, rfl⟩
  rw [← ef] at sh
  have w := shR_wl (a := b) hs hS
  rw [← ef] at w
  refine ⟨bcR f (I 188) b (pop F), ?_, ?_, fun i hi => ?_⟩
  · refine callF_at (by omega) (by decide) (Nat.le_of_ble_eq_true rfl) (fun d' hd' => ?_)
    obtain rfl : d = d' := by omega
    show Ev X d 226 0 [.ref 177, .int (nI b), .int (nI s), .retAddr 0] [] (mk I J) _
    have c1 : ∀ k, bcR f (I 188) b k (70 + s) = nI (pop F) := fun k => by
      unfold bcR
      rw [if_neg (by omega), ef, shR_out (by unfold inA; omega)]; exact hS.2.1
    have lp : Ev X d 226 1 [.ref 177, .int (nI b), .int (nI s), .int (nI 0)] [] (mk (va_up I 178 f) J) (none, mk (va_up I 178 (bcR f (I 188) b (pop F))) J) := by
      refine lpI (n := pop F) (P := fun k => Ev X d 226 1 [.ref 177, .int (nI b), .int (nI s), .int (nI k)] [] (mk (va_up I 178 (bcR f (I 188) b k)) J) (none, mk (va_up I 178 (bcR f (I 188) b (pop F))) J)) ?_ ?_ (fun Q => by rw [bcR_0] at Q; exact Q)
      · have c := c1 (pop F)
        rw [U_226_1]
        simp (disch := first | omega | assumption | exact rfl) only [U_226_3, XX, QQ, WW, KK, QX, SHs, RRs, Nat.reduceAdd, Nat.reduceMul, Nat.reduceLeDiff, Nat.reduceEqDiff, List.length_cons, List.length_nil, decide_true, decide_false, Bool.true_and, Bool.and_true, Bool.false_and, Bool.and_false, false_and, and_false, Bool.false_eq_true, Bool.true_eq_false, reduceCtorEq, eq_self, if_true, if_false, true_and, and_true, not_true_eq_false, not_false_eq_true, if_pos, if_neg, z_ite_not, false_or, or_false, true_or, or_true, SWs, swk_0, swk_1, c]
      · intro k hk ih
        have c := c1 k
        have k24 : k < 24 := by omega
        rw [← bcR_s] at ih
        rw [U_226_1]
        simp (disch := first | omega | assumption | exact rfl) only [U_226_2, XX, QQ, WW, KK, QX, SHs, RRs, Nat.reduceAdd, Nat.reduceMul, Nat.reduceLeDiff, Nat.reduceEqDiff, List.length_cons, List.length_nil, decide_true, decide_false, Bool.true_and, Bool.and_true, Bool.false_and, Bool.and_false, false_and, and_false, Bool.false_eq_true, Bool.true_eq_false, reduceCtorEq, eq_self, if_true, if_false, true_and, and_true, not_true_eq_false, not_false_eq_true, if_pos, if_neg, z_ite_not, false_or, or_false, true_or, or_true, SWs, swk_0, swk_1, c]
        exact ih
    simp (disch := first | omega | assumption | exact rfl) only [U_226_0, XX, QQ, WW, KK, QX, SHs, RRs, Nat.reduceAdd, Nat.reduceMul, Nat.reduceLeDiff, Nat.reduceEqDiff, List.length_cons, List.length_nil, decide_true, decide_false, Bool.true_and, Bool.and_true, Bool.false_and, Bool.and_false, false_and, and_false, Bool.false_eq_true, Bool.true_eq_false, reduceCtorEq, eq_self, if_true, if_false, true_and, and_true, not_true_eq_false, not_false_eq_true, if_pos, if_neg, z_ite_not, false_or, or_false, true_or, or_true, SWs, swk_0, swk_1, sh]
    exact lp
  · obtain ⟨w1, w2, w3, w4⟩ := w
    refine ⟨w1, ?_, fun i hi => ?_, fun i hi => ?_⟩
    · unfold bcR; rw [if_neg (by omega)]; exact w2
    · obtain ⟨x1, x2⟩ := w3 i hi
      unfold bcR
      rw [if_neg (by omega), if_neg (by omega)]; exact ⟨x1, x2⟩
    · unfold bcR
      by_cases z : i < pop F
      · rw [if_pos (by omega), show 668 + 24 * b + i - (668 + 24 * b) = i by omega]; exact hT i hi
      · rw [if_neg (by omega), w4 i hi, hW.2.2 i (by omega) hi]
  · unfold bcR
    rw [if_neg (fun z => hi (by unfold inA; omega)), ef, shR_out hi]
