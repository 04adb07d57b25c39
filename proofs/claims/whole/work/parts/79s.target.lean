/-! ===== targetOf: the class ===== -/
theorem sw0k {d n : Nat} {L st : List Value} {m : Mem} (hn : n < 2 ^ 31) : swk (swt 0) d (nI n) L st m = some (.inr (swf (swt 0) d n, L, st, m)) := swk_f hn _ (by rw [sw0]; decide)
theorem c_targetOf {X : Nat × (Nat → Int32)} {d : Nat} {I : Nat → Nat → Int32} {J : Nat → Nat → Int64} {w y n i : Nat} {u : Int32} {sn : Nat → Nat} (hd : 2 ≤ d) (hw : w < 7) (hy : y ≤ 9999) (hu : w = 1 → u = nI y) (hn24 : n ≤ 24) (hi : i < n) (h1 : I 145 1 = nI n) (h : callF X (d - 1) 16 [.ref 140, .int (nI i)] (mk I J) = some (some (.int (nI (sn i))), mk I J)) :
    callF X d 15 [.ref 140, .int (nI i), .int (nI w), .int u] (mk I J) = some (some (.int (nI (tgF (nI w) y n sn i))), mk I J) := by
  obtain ⟨d, rfl⟩ : ∃ d', d = d' + 1 := ⟨d - 1, by omega⟩
  rw [Nat.add_sub_cancel] at h
  refine callF_at (by omega) (by decide) (Nat.le_of_ble_eq_true rfl) (fun d' hd' => ?_)
  obtain rfl : d = d' := by omega
  show Ev X d 15 0 [.ref 140, .int (nI i), .int (nI w), .int u] [] (mk I J) _
  by_cases w1 : w = 1
  · subst w1
    have hu := hu rfl
    subst hu
    have k : ∀ (L st : List Value) (m : Mem), swk (swt 0) 4 (nI 1) L st m = some (.inr (1, L, st, m)) := fun L st m => sw0k (by decide)
    have fm := fun M => s_floorMod (X := X) (d := d) (M := M) (a := i + y) (m := n) (by omega) (by omega) (by omega) (by omega)
    have e : tgF (nI 1) y n sn i = (i + y) % n := by unfold tgF; rw [if_pos rfl]
    rw [e]
    by_cases n1 : 1 < n
    · simp (disch := first | omega | assumption | exact rfl) only [U_15_0, U_15_1, XX, QQ, WW, KK, QX, SHs, RRs, Nat.reduceAdd, Nat.reduceMul, Nat.reduceLeDiff, Nat.reduceEqDiff, List.length_cons, List.length_nil, decide_true, decide_false, Bool.true_and, Bool.and_true, Bool.false_and, Bool.and_false, false_and, and_false, Bool.false_eq_true, Bool.true_eq_false, reduceCtorEq, eq_self, if_true, if_false, true_and, and_true, not_true_eq_false, not_false_eq_true, if_pos, if_neg, z_ite_not, false_or, or_false, true_or, or_true, SWs, swk_0, swk_1, k, h1, fm]
    · have n2 : n = 1 := by omega
      subst n2
      simp (disch := first | omega | assumption | exact rfl) only [U_15_0, U_15_1, XX, QQ, WW, KK, QX, SHs, RRs, Nat.reduceAdd, Nat.reduceMul, Nat.reduceLeDiff, Nat.reduceEqDiff, List.length_cons, List.length_nil, decide_true, decide_false, Bool.true_and, Bool.and_true, Bool.false_and, Bool.and_false, false_and, and_false, Bool.false_eq_true, Bool.true_eq_false, reduceCtorEq, eq_self, if_true, if_false, true_and, and_true, not_true_eq_false, not_false_eq_true, if_pos, if_neg, z_ite_not, false_or, or_false, true_or, or_true, SWs, swk_0, swk_1, k, h1, fm]
  · by_cases w2 : w = 2
    · subst w2
      have k : ∀ (L st : List Value) (m : Mem), swk (swt 0) 4 (nI 2) L st m = some (.inr (2, L, st, m)) := fun L st m => sw0k (by decide)
      have e : tgF (nI 2) y n sn i = n - 1 - i := by unfold tgF; rw [if_neg (by decide +kernel), if_pos rfl]
      rw [e]
      simp (disch := first | omega | assumption | exact rfl) only [U_15_0, U_15_2, XX, QQ, WW, KK, QX, SHs, RRs, Nat.reduceAdd, Nat.reduceMul, Nat.reduceLeDiff, Nat.reduceEqDiff, List.length_cons, List.length_nil, decide_true, decide_false, Bool.true_and, Bool.and_true, Bool.false_and, Bool.and_false, false_and, and_false, Bool.false_eq_true, Bool.true_eq_false, reduceCtorEq, eq_self, if_true, if_false, true_and, and_true, not_true_eq_false, not_false_eq_true, if_pos, if_neg, z_ite_not, false_or, or_false, true_or, or_true, SWs, swk_0, swk_1, k, h1]
    · by_cases w3 : w = 3
      · subst w3
        have k : ∀ (L st : List Value) (m : Mem), swk (swt 0) 4 (nI 3) L st m = some (.inr (3, L, st, m)) := fun L st m => sw0k (by decide)
        have e : tgF (nI 3) y n sn i = sn i := by unfold tgF; rw [if_neg (by decide +kernel), if_neg (by decide +kernel), if_pos rfl]
        rw [e]
        simp (disch := first | omega | assumption | exact rfl) only [U_15_0, U_15_3, XX, QQ, WW, KK, QX, SHs, RRs, Nat.reduceAdd, Nat.reduceMul, Nat.reduceLeDiff, Nat.reduceEqDiff, List.length_cons, List.length_nil, decide_true, decide_false, Bool.true_and, Bool.and_true, Bool.false_and, Bool.and_false, false_and, and_false, Bool.false_eq_true, Bool.true_eq_false, reduceCtorEq, eq_self, if_true, if_false, true_and, and_true, not_true_eq_false, not_false_eq_true, if_pos, if_neg, z_ite_not, false_or, or_false, true_or, or_true, SWs, swk_0, swk_1, k, h]
      · have k : ∀ (L st : List Value) (m : Mem), swk (swt 0) 4 (nI w) L st m = some (.inr (4, L, st, m)) := fun L st m => by
          rw [sw0k (by omega), sw0]
          unfold swf
          rw [if_neg w1]; unfold swf; rw [if_neg w2]; unfold swf; rw [if_neg w3]; rfl
        have e : tgF (nI w) y n sn i = i := by
          unfold tgF
          rw [if_neg (fun z => w1 (nI_inj (by omega) (by omega) z)), if_neg (fun z => w2 (nI_inj (by omega) (by omega) z)), if_neg (fun z => w3 (nI_inj (by omega) (by omega) z))]
        rw [e]
        simp (disch := first | omega | assumption | exact rfl) only [U_15_0, U_15_4, XX, QQ, WW, KK, QX, SHs, RRs, Nat.reduceAdd, Nat.reduceMul, Nat.reduceLeDiff, Nat.reduceEqDiff, List.length_cons, List.length_nil, decide_true, decide_false, Bool.true_and, Bool.and_true, Bool.false_and, Bool.and_false, false_and, and_false, Bool.false_eq_true, Bool.true_eq_false, reduceCtorEq, eq_self, if_true, if_false, true_and, and_true, not_true_eq_false, not_false_eq_true, if_pos, if_neg, z_ite_not, false_or, or_false, true_or, or_true, SWs, swk_0, swk_1, k]
