/-! ===== the class's builder gathers the bricks of the old wall ===== -/
theorem c_gather {X : Nat × (Nat → Int32)} {d : Nat} {I : Nat → Nat → Int32} {J : Nat → Nat → Int64} {F : Nat} {B : Nat → Int32} (hd : 1 ≤ d) (h24 : pop F ≤ 24) (hc : I 141 1 = nI (pop F)) (hB : ∀ i, i < 24 → I 142 i = B i) :
    callF X d 13 [.ref 140] (mk I J) = some (none, mk (va_up (va_up I 152 (gatB B (pop F) (pop F) (I 152))) 140 (va_up (I 140) 4 (nI (fb_ct (isB B) (pop F))))) J) := by
  refine callF_at (by omega) (by decide) (Nat.le_of_ble_eq_true rfl) (fun d _ => ?_)
  show Ev X d 13 0 [.ref 140, .retAddr 0] [] ( mk I J) _
  obtain ⟨It, eIt⟩ : ∃ It : Nat → Nat → Nat → Int32, It = fun i => va_up (va_up I 152 (gatB B (pop F) i (I 152))) 140 (va_up (I 140) 4 (nI (fb_ct (isB B) i))) := ⟨_, rfl⟩
  have g4 : ∀ i, It i 140 4 = nI (fb_ct (isB B) i) := fun i => by rw [eIt]; dsimp only; rw [vu_eq, vu_eq]
  have g152 : ∀ i, It i 152 = gatB B (pop F) i (I 152) := fun i => by rw [eIt]; dsimp only; rw [vu_ne (by decide), vu_eq]
  have gf : ∀ i a, a ≠ 140 → a ≠ 152 → It i a = I a := fun i a x y => by rw [eIt]; dsimp only; rw [vu_ne x, vu_ne y]
  have e0 : It 0 = va_up I 140 (va_up (I 140) 4 (nI 0)) := by
    rw [eIt]; dsimp only; rw [gat_0.1, vu_id]; rfl
  have eN : It (pop F) = va_up (va_up I 152 (gatB B (pop F) (pop F) (I 152))) 140 (va_up (I 140) 4 (nI (fb_ct (isB B) (pop F)))) := by rw [eIt]
  have st : ∀ i, i < pop F → ¬ B i = -1 → va_up (va_up (It i) 152 (va_up (It i 152) (fb_ct (isB B) i) (B i))) 140 (va_up (It i 140) 4 (nI (fb_ct (isB B) i + 1))) = It (i + 1) := fun i hi z => by
    obtain ⟨s1, _, s3⟩ := gat_s (g := I 152) hi z
    rw [g152, s1, eIt]
    dsimp only
    rw [s3]
    funext a
    by_cases x : a = 140
    · subst x; rw [vu_eq, vu_eq, vu_eq, vu_vu]
    · rw [vu_ne x, vu_ne x]
      by_cases y : a = 152
      · subst y; rw [vu_eq, vu_eq]
      · rw [vu_ne y, vu_ne y, vu_ne x, vu_ne y]
  rw [← eN]
  have lp : Ev X d 13 1 [.ref 140, .int (nI 0)] [] (mk (It 0) J) (none, mk (It (pop F)) J) := by
    refine lpI (n := pop F) (P := fun i => Ev X d 13 1 [.ref 140, .int (nI i)] [] (mk (It i) J) (none, mk (It (pop F)) J)) ?_ ?_ (fun Q => Q)
    · have c1 : It (pop F) 141 1 = nI (pop F) := by rw [gf _ _ (by decide) (by decide)]; exact hc
      rw [U_13_1]
      simp (disch := first | omega | assumption | exact rfl) only [U_13_6, XX, QQ, WW, KK, QX, SHs, RRs, Nat.reduceAdd, Nat.reduceMul, Nat.reduceLeDiff, Nat.reduceEqDiff, List.length_cons, List.length_nil, decide_true, decide_false, Bool.true_and, Bool.and_true, Bool.false_and, Bool.and_false, false_and, and_false, Bool.false_eq_true, Bool.true_eq_false, reduceCtorEq, eq_self, if_true, if_false, true_and, and_true, not_true_eq_false, not_false_eq_true, if_pos, if_neg, z_ite_not, false_or, or_false, true_or, or_true, SWs, swk_0, swk_1, c1]
    · intro i hi ih
      have c1 : It i 141 1 = nI (pop F) := by rw [gf _ _ (by decide) (by decide)]; exact hc
      have c4 := g4 i
      have hle := fb_ct_le (isB B) i
      have i24 : i < 24 := by omega
      have c2 : It i 142 i = B i := by rw [gf _ _ (by decide) (by decide)]; exact hB i i24
      rw [U_13_1]
      by_cases z : B i = -1
      · have e : It (i + 1) = It i := by
          obtain ⟨s1, _, s3⟩ := gat_n (g := I 152) (N := pop F) z
          rw [eIt]; dsimp only; rw [s1, s3]
        rw [e] at ih
        simp (disch := first | omega | assumption | exact rfl) only [U_13_2, U_13_5, XX, QQ, WW, KK, QX, SHs, RRs, Nat.reduceAdd, Nat.reduceMul, Nat.reduceLeDiff, Nat.reduceEqDiff, List.length_cons, List.length_nil, decide_true, decide_false, Bool.true_and, Bool.and_true, Bool.false_and, Bool.and_false, false_and, and_false, Bool.false_eq_true, Bool.true_eq_false, reduceCtorEq, eq_self, if_true, if_false, true_and, and_true, not_true_eq_false, not_false_eq_true, if_pos, if_neg, z_ite_not, false_or, or_false, true_or, or_true, SWs, swk_0, swk_1, c1, c2, z]
        exact ih
      · rw [← st i hi z] at ih
        have w4 : va_up (It i) 152 (va_up (It i 152) (fb_ct (isB B) i) (B i)) 140 = It i 140 := vu_ne (by decide)
        simp (disch := first | omega | assumption | exact rfl) only [U_13_2, U_13_3, U_13_4, U_13_5, XX, QQ, WW, KK, QX, SHs, RRs, Nat.reduceAdd, Nat.reduceMul, Nat.reduceLeDiff, Nat.reduceEqDiff, List.length_cons, List.length_nil, decide_true, decide_false, Bool.true_and, Bool.and_true, Bool.false_and, Bool.and_false, false_and, and_false, Bool.false_eq_true, Bool.true_eq_false, reduceCtorEq, eq_self, if_true, if_false, true_and, and_true, not_true_eq_false, not_false_eq_true, if_pos, if_neg, z_ite_not, false_or, or_false, true_or, or_true, SWs, swk_0, swk_1, c1, c2, c4, z, w4]
        exact ih
  rw [e0] at lp
  simp (disch := first | omega | assumption | exact rfl) only [U_13_0, XX, QQ, WW, KK, QX, SHs, RRs, Nat.reduceAdd, Nat.reduceMul, Nat.reduceLeDiff, Nat.reduceEqDiff, List.length_cons, List.length_nil, decide_true, decide_false, Bool.true_and, Bool.and_true, Bool.false_and, Bool.and_false, false_and, and_false, Bool.false_eq_true, Bool.true_eq_false, reduceCtorEq, eq_self, if_true, if_false, true_and, and_true, not_true_eq_false, not_false_eq_true, if_pos, if_neg, z_ite_not, false_or, or_false, true_or, or_true, SWs, swk_0, swk_1]
  exact lp
