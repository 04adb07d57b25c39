/-! ===== all who touch in a wall meet: the reference ===== -/
def rM (g : Nat → Int32) (N : Nat → Nat) (y : Int32) (t bb : Nat) : Nat → Int32 := fun j => if 850 ≤ j ∧ j < 850 + t ∧ g j = -1 ∧ (N ((j - 850) / 24)).testBit ((j - 850) % 24) = true then y else if 820 ≤ j ∧ j < 820 + bb then g j ||| nI (N (j - 820)) else g j
section RMT
variable {g : Nat → Int32} {N : Nat → Nat} {y : Int32} {b c bb : Nat}
theorem rM_0 : rM g N y 0 0 = g := by funext j; unfold rM; rw [if_neg (by omega), if_neg (by omega)]
theorem dm (hc : c < 24) : (850 + 24 * b + c - 850) / 24 = b ∧ (850 + 24 * b + c - 850) % 24 = c := by omega
theorem rM_at (hbb : bb ≤ 24) : rM g N y (24 * b + c) bb (850 + 24 * b + c) = g (850 + 24 * b + c) := by unfold rM; rw [if_neg (by omega), if_neg (by omega)]
theorem rM_3 : rM g N y (24 * b + c) bb 3 = g 3 := by unfold rM; rw [if_neg (by omega), if_neg (by omega)]
theorem rM_y (hc : c < 24) (h1 : g (850 + 24 * b + c) = -1) (h2 : (N b).testBit c = true) : va_up (rM g N y (24 * b + c) bb) (850 + 24 * b + c) y = rM g N y (24 * b + (c + 1)) bb := by
  funext j; unfold va_up
  by_cases z : j = 850 + 24 * b + c
  · rw [if_pos z]
    unfold rM
    rw [if_pos ⟨by omega, by omega, by rw [z]; exact h1, by rw [z, (dm hc).1, (dm hc).2]; exact h2⟩]
  · rw [if_neg z]
    unfold rM
    have : (850 ≤ j ∧ j < 850 + (24 * b + c) ∧ g j = -1 ∧ (N ((j - 850) / 24)).testBit ((j - 850) % 24) = true) ↔ (850 ≤ j ∧ j < 850 + (24 * b + (c + 1)) ∧ g j = -1 ∧ (N ((j - 850) / 24)).testBit ((j - 850) % 24) = true) := ⟨fun k => ⟨k.1, by omega, k.2.2⟩, fun k => ⟨k.1, by omega, k.2.2⟩⟩
    by_cases w : (850 ≤ j ∧ j < 850 + (24 * b + c) ∧ g j = -1 ∧ (N ((j - 850) / 24)).testBit ((j - 850) % 24) = true)
    · rw [if_pos w, if_pos (this.mp w)]
    · rw [if_neg w, if_neg (fun k => w (this.mpr k))]
theorem rM_n (hc : c < 24) (h : ¬ (g (850 + 24 * b + c) = -1 ∧ (N b).testBit c = true)) : rM g N y (24 * b + (c + 1)) bb = rM g N y (24 * b + c) bb := by
  funext j
  unfold rM
  have : (850 ≤ j ∧ j < 850 + (24 * b + c) ∧ g j = -1 ∧ (N ((j - 850) / 24)).testBit ((j - 850) % 24) = true) ↔ (850 ≤ j ∧ j < 850 + (24 * b + (c + 1)) ∧ g j = -1 ∧ (N ((j - 850) / 24)).testBit ((j - 850) % 24) = true) := ⟨fun k => ⟨k.1, by omega, k.2.2⟩, fun k => ⟨k.1, by
    by_cases z : j = 850 + 24 * b + c
    · refine absurd ⟨?_, ?_⟩ h
      · rw [← z]; exact k.2.2.1
      · have q := k.2.2.2
        rw [z, (dm hc).1, (dm hc).2] at q; exact q
    · omega, k.2.2⟩⟩
  by_cases w : (850 ≤ j ∧ j < 850 + (24 * b + c) ∧ g j = -1 ∧ (N ((j - 850) / 24)).testBit ((j - 850) % 24) = true)
  · rw [if_pos w, if_pos (this.mp w)]
  · rw [if_neg w, if_neg (fun k => w (this.mpr k))]
theorem rM_r {t : Nat} (hb : b < 24) : va_up (rM g N y t b) (820 + b) (g (820 + b) ||| nI (N b)) = rM g N y t (b + 1) := by
  funext j; unfold va_up
  by_cases z : j = 820 + b
  · rw [if_pos z]
    unfold rM
    rw [if_neg (by omega), if_pos (by omega), z, Nat.add_sub_cancel_left]
  · rw [if_neg z]
    unfold rM
    by_cases w : 850 ≤ j ∧ j < 850 + t ∧ g j = -1 ∧ (N ((j - 850) / 24)).testBit ((j - 850) % 24) = true
    · rw [if_pos w, if_pos w]
    · rw [if_neg w, if_neg w]
      by_cases v : 820 ≤ j ∧ j < 820 + b
      · rw [if_pos v, if_pos (by omega)]
      · rw [if_neg v, if_neg (by omega)]
theorem rM_b {t : Nat} (hb : b < 24) : rM g N y t b (820 + b) = g (820 + b) := by unfold rM; rw [if_neg (by omega), if_neg (by omega)]
end RMT
theorem r_meetLoop {X : Nat × (Nat → Int32)} {d : Nat} {I : Nat → Nat → Int32} {J : Nat → Nat → Int64} {N : Nat → Nat} {y k s n3 n4 n5 : Int32} {r : Option Value × Mem} (hN : ∀ b, b < 24 → I 187 b = nI (N b)) (hN2 : ∀ b, N b < 2 ^ 24) (hy : I 178 3 = y) (hk : ∀ u7 : Value, Ev X d 231 18 [.ref 177, .int k, .int s, .int n3, .int n4, .int n5, .int (nI 24), u7] [] (mk (va_up I 178 (rM (I 178) N y 576 24)) J) r) (u7 : Value) :
    Ev X d 231 10 [.ref 177, .int k, .int s, .int n3, .int n4, .int n5, .int (nI 0), u7] [] (mk I J) r := by
  obtain ⟨g, eg⟩ : ∃ g, g = I 178 := ⟨_, rfl⟩
  rw [← eg] at hk hy
  refine lpI (n := 24) (P := fun b => ∀ u7 : Value, Ev X d 231 10 [.ref 177, .int k, .int s, .int n3, .int n4, .int n5, .int (nI b), u7] [] (mk (va_up I 178 (rM g N y (24 * b + 0) b)) J) r) ?_ ?_ (fun Q => by
    have := Q u7
    rw [Nat.mul_zero, Nat.add_zero, rM_0, eg, vu_id] at this; exact this)
  · intro u7
    rw [U_231_10]
    simp (disch := first | omega | assumption | exact rfl) only [U_231_10, XX, QQ, WW, KK, QX, SHs, RRs, Nat.reduceAdd, Nat.reduceMul, Nat.reduceLeDiff, Nat.reduceEqDiff, List.length_cons, List.length_nil, decide_true, decide_false, Bool.true_and, Bool.and_true, Bool.false_and, Bool.and_false, false_and, and_false, Bool.false_eq_true, Bool.true_eq_false, reduceCtorEq, eq_self, if_true, if_false, true_and, and_true, not_true_eq_false, not_false_eq_true, if_pos, if_neg, z_ite_not, false_or, or_false, true_or, or_true, SWs, swk_0, swk_1]
    exact hk u7
  · intro b hb ih u7
    rw [U_231_10]
    simp (disch := first | omega | assumption | exact rfl) only [U_231_11, XX, QQ, WW, KK, QX, SHs, RRs, Nat.reduceAdd, Nat.reduceMul, Nat.reduceLeDiff, Nat.reduceEqDiff, List.length_cons, List.length_nil, decide_true, decide_false, Bool.true_and, Bool.and_true, Bool.false_and, Bool.and_false, false_and, and_false, Bool.false_eq_true, Bool.true_eq_false, reduceCtorEq, eq_self, if_true, if_false, true_and, and_true, not_true_eq_false, not_false_eq_true, if_pos, if_neg, z_ite_not, false_or, or_false, true_or, or_true, SWs, swk_0, swk_1]
    have e1 := hN b hb
    have nb := hN2 b
    refine lpI (n := 24) (P := fun c => Ev X d 231 12 [.ref 177, .int k, .int s, .int n3, .int n4, .int n5, .int (nI b), .int (nI c)] [] (mk (va_up I 178 (rM g N y (24 * b + c) b)) J) r) ?_ ?_ (fun Q => Q)
    · have e3 : rM g N y (24 * b + 24) b (820 + b) = g (820 + b) := rM_b hb
      have e4 := rM_r (g := g) (N := N) (y := y) (t := 24 * b + 24) hb
      rw [show 24 * (b + 1) + 0 = 24 * b + 24 by omega, ← e4] at ih
      rw [U_231_12]
      simp (disch := first | omega | assumption | exact rfl) only [U_231_17, XX, QQ, WW, KK, QX, SHs, RRs, Nat.reduceAdd, Nat.reduceMul, Nat.reduceLeDiff, Nat.reduceEqDiff, List.length_cons, List.length_nil, decide_true, decide_false, Bool.true_and, Bool.and_true, Bool.false_and, Bool.and_false, false_and, and_false, Bool.false_eq_true, Bool.true_eq_false, reduceCtorEq, eq_self, if_true, if_false, true_and, and_true, not_true_eq_false, not_false_eq_true, if_pos, if_neg, z_ite_not, false_or, or_false, true_or, or_true, SWs, swk_0, swk_1, e1, e3]
      exact ih _
    · intro c hc ihc
      have e2 : rM g N y (24 * b + c) b (850 + 24 * b + c) = g (850 + 24 * b + c) := rM_at (by omega)
      have e3 : rM g N y (24 * b + c) b 3 = y := by rw [rM_3]; exact hy
      rw [U_231_12]
      by_cases z : (N b).testBit c = true
      · by_cases w : g (850 + 24 * b + c) = -1
        · rw [← rM_y hc w z] at ihc
          rw [w] at e2
          simp (disch := first | omega | assumption | exact rfl) only [U_231_13, U_231_14, U_231_15, U_231_16, XX, QQ, WW, KK, QX, SHs, RRs, Nat.reduceAdd, Nat.reduceMul, Nat.reduceLeDiff, Nat.reduceEqDiff, List.length_cons, List.length_nil, decide_true, decide_false, Bool.true_and, Bool.and_true, Bool.false_and, Bool.and_false, false_and, and_false, Bool.false_eq_true, Bool.true_eq_false, reduceCtorEq, eq_self, if_true, if_false, true_and, and_true, not_true_eq_false, not_false_eq_true, if_pos, if_neg, z_ite_not, false_or, or_false, true_or, or_true, SWs, swk_0, swk_1, e1, z, n_bit2, e2, e3]
          exact ihc
        · rw [rM_n hc (fun k => w k.1)] at ihc
          simp (disch := first | omega | assumption | exact rfl) only [U_231_13, U_231_14, U_231_16, XX, QQ, WW, KK, QX, SHs, RRs, Nat.reduceAdd, Nat.reduceMul, Nat.reduceLeDiff, Nat.reduceEqDiff, List.length_cons, List.length_nil, decide_true, decide_false, Bool.true_and, Bool.and_true, Bool.false_and, Bool.and_false, false_and, and_false, Bool.false_eq_true, Bool.true_eq_false, reduceCtorEq, eq_self, if_true, if_false, true_and, and_true, not_true_eq_false, not_false_eq_true, if_pos, if_neg, z_ite_not, false_or, or_false, true_or, or_true, SWs, swk_0, swk_1, e1, z, n_bit2, e2, w]
          exact ihc
      · have z' : (N b).testBit c = false := by simpa using z
        rw [rM_n hc (fun k => z k.2)] at ihc
        simp (disch := first | omega | assumption | exact rfl) only [U_231_13, U_231_16, XX, QQ, WW, KK, QX, SHs, RRs, Nat.reduceAdd, Nat.reduceMul, Nat.reduceLeDiff, Nat.reduceEqDiff, List.length_cons, List.length_nil, decide_true, decide_false, Bool.true_and, Bool.and_true, Bool.false_and, Bool.and_false, false_and, and_false, Bool.false_eq_true, Bool.true_eq_false, reduceCtorEq, eq_self, if_true, if_false, true_and, and_true, not_true_eq_false, not_false_eq_true, if_pos, if_neg, z_ite_not, false_or, or_false, true_or, or_true, SWs, swk_0, swk_1, e1, z', n_bit2]
        exact ihc
