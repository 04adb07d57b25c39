/-! ===== parting: the reference ===== -/
def cAt (F x y : Nat) : Int32 := if x < 8 ∧ y < 8 ∧ F.testBit (8 * y + x) = true then nI (num F (8 * y + x)) else -1
theorem r_cellAt {X : Nat × (Nat → Int32)} {d : Nat} {I : Nat → Nat → Int32} {J : Nat → Nat → Int64} {s F x y : Nat} (hd : 1 ≤ d) (hs : s < 6) (hR : RSh (I 178) s F) (hx : x < 16) (hy : y < 16) : callF X d 240 [.ref 177, .int (nI s), .int (nI x), .int (nI y)] (mk I J) = some (some (.int (cAt F x y)), mk I J) := by
  obtain ⟨h24, h1, h2⟩ := hR
  refine callF_at (by omega) (by decide) (Nat.le_of_ble_eq_true rfl) (fun d _ => ?_)
  show Ev X d 240 0 [.ref 177, .int (nI s), .int (nI x), .int (nI y), .retAddr 0] [] ( mk I J) _
  have lp : ∀ i, i ≤ pop F → (∀ j, j < i → ¬ (pl F j % 8 = x ∧ pl F j / 8 = y)) → Ev X d 240 1 [.ref 177, .int (nI s), .int (nI x), .int (nI y), .int (nI i)] [] (mk I J) (some (.int (cAt F x y)), mk I J) := by
    refine lpd (n := pop F) (P := fun i => (∀ j, j < i → ¬ (pl F j % 8 = x ∧ pl F j / 8 = y)) → Ev X d 240 1 [.ref 177, .int (nI s), .int (nI x), .int (nI y), .int (nI i)] [] (mk I J) (some (.int (cAt F x y)), mk I J)) ?_ ?_
    · intro no
      have e : cAt F x y = -1 := by
        unfold cAt
        refine if_neg (fun q => ?_)
        obtain ⟨q1, q2, q3⟩ := q
        have nl := num_lt (F := F) (p := 8 * y + x) (by omega) q3
        have pn := pl_num (F := F) (p := 8 * y + x) (by omega) q3
        exact no _ nl (by rw [pn]; omega)
      rw [e, U_240_1]
      simp (disch := first | omega | assumption | exact rfl) only [U_240_6, XX, QQ, WW, KK, QX, SHs, RRs, Nat.reduceAdd, Nat.reduceMul, Nat.reduceLeDiff, Nat.reduceEqDiff, List.length_cons, List.length_nil, decide_true, decide_false, Bool.true_and, Bool.and_true, Bool.false_and, Bool.and_false, false_and, and_false, Bool.false_eq_true, Bool.true_eq_false, reduceCtorEq, eq_self, if_true, if_false, true_and, and_true, not_true_eq_false, not_false_eq_true, if_pos, if_neg, z_ite_not, false_or, or_false, true_or, or_true, SWs, swk_0, swk_1, h1]
    · intro i hi ih no
      obtain ⟨x1, x2⟩ := h2 i hi
      obtain ⟨p1, p2, p3⟩ := pl_spec hi
      have i24 : i < 24 := by omega
      rw [U_240_1]
      by_cases a : pl F i % 8 = x
      · by_cases b : pl F i / 8 = y
        · have e : cAt F x y = nI i := by
            unfold cAt
            have ep : 8 * y + x = pl F i := by omega
            rw [ep, if_pos ⟨by omega, by omega, p2⟩, p3]
          rw [e]
          rw [a] at x1
          rw [b] at x2
          simp (disch := first | omega | assumption | exact rfl) only [U_240_2, U_240_3, U_240_4, XX, QQ, WW, KK, QX, SHs, RRs, Nat.reduceAdd, Nat.reduceMul, Nat.reduceLeDiff, Nat.reduceEqDiff, List.length_cons, List.length_nil, decide_true, decide_false, Bool.true_and, Bool.and_true, Bool.false_and, Bool.and_false, false_and, and_false, Bool.false_eq_true, Bool.true_eq_false, reduceCtorEq, eq_self, if_true, if_false, true_and, and_true, not_true_eq_false, not_false_eq_true, if_pos, if_neg, z_ite_not, false_or, or_false, true_or, or_true, SWs, swk_0, swk_1, h1, x1, x2]
        · have nx := ih (fun j hj q => by
            by_cases z : j = i
            · subst z; exact b q.2
            · exact no j (by omega) q)
          rw [a] at x1
          simp (disch := first | omega | assumption | exact rfl) only [U_240_2, U_240_3, U_240_5, XX, QQ, WW, KK, QX, SHs, RRs, Nat.reduceAdd, Nat.reduceMul, Nat.reduceLeDiff, Nat.reduceEqDiff, List.length_cons, List.length_nil, decide_true, decide_false, Bool.true_and, Bool.and_true, Bool.false_and, Bool.and_false, false_and, and_false, Bool.false_eq_true, Bool.true_eq_false, reduceCtorEq, eq_self, if_true, if_false, true_and, and_true, not_true_eq_false, not_false_eq_true, if_pos, if_neg, z_ite_not, false_or, or_false, true_or, or_true, SWs, swk_0, swk_1, h1, x1, x2, b]
          exact nx
      · have nx := ih (fun j hj q => by
          by_cases z : j = i
          · subst z; exact a q.1
          · exact no j (by omega) q)
        simp (disch := first | omega | assumption | exact rfl) only [U_240_2, U_240_5, XX, QQ, WW, KK, QX, SHs, RRs, Nat.reduceAdd, Nat.reduceMul, Nat.reduceLeDiff, Nat.reduceEqDiff, List.length_cons, List.length_nil, decide_true, decide_false, Bool.true_and, Bool.and_true, Bool.false_and, Bool.and_false, false_and, and_false, Bool.false_eq_true, Bool.true_eq_false, reduceCtorEq, eq_self, if_true, if_false, true_and, and_true, not_true_eq_false, not_false_eq_true, if_pos, if_neg, z_ite_not, false_or, or_false, true_or, or_true, SWs, swk_0, swk_1, h1, x1, a]
        exact nx
  have st := lp 0 (Nat.zero_le _) (fun j hj => by omega)
  simp (disch := first | omega | assumption | exact rfl) only [U_240_0, XX, QQ, WW, KK, QX, SHs, RRs, Nat.reduceAdd, Nat.reduceMul, Nat.reduceLeDiff, Nat.reduceEqDiff, List.length_cons, List.length_nil, decide_true, decide_false, Bool.true_and, Bool.and_true, Bool.false_and, Bool.and_false, false_and, and_false, Bool.false_eq_true, Bool.true_eq_false, reduceCtorEq, eq_self, if_true, if_false, true_and, and_true, not_true_eq_false, not_false_eq_true, if_pos, if_neg, z_ite_not, false_or, or_false, true_or, or_true, SWs, swk_0, swk_1]
  exact st
theorem cAt_in {F x y : Nat} (hF : pop F ≤ 24) : (cAt F x y = -1 ∧ ¬ (x < 8 ∧ y < 8 ∧ F.testBit (8 * y + x) = true)) ∨ ∃ j, j < pop F ∧ cAt F x y = nI j ∧ pl F j = 8 * y + x ∧ x < 8 ∧ y < 8 := by
  by_cases z : x < 8 ∧ y < 8 ∧ F.testBit (8 * y + x) = true
  · right
    refine ⟨num F (8 * y + x), num_lt (by omega) z.2.2, ?_, pl_num (by omega) z.2.2, z.1, z.2.1⟩
    unfold cAt; rw [if_pos z]
  · left
    refine ⟨?_, z⟩
    unfold cAt; rw [if_neg z]
/-! bits of what can be parted -/
theorem alg_bit {f : Nat → Nat} {R P S T c : Nat} : (alg f R P S T).testBit c = true ↔ R &&& S ≠ 0 ∧ ((1 ≤ c ∧ (f (rmS (rmS R P) S)).testBit (c - 1) = true) ∨ (R &&& T ≠ 0 ∧ (f (rmS (rmS (rmS R P) S) T)).testBit c = true)) := by
  unfold alg
  by_cases z : R &&& S = 0
  · rw [if_pos z, Nat.zero_testBit]
    exact ⟨fun h => (by cases h), fun h => absurd z h.1⟩
  · rw [if_neg z, Nat.testBit_or, Bool.or_eq_true]
    have e : (f (rmS (rmS R P) S) * 2).testBit c = true ↔ 1 ≤ c ∧ (f (rmS (rmS R P) S)).testBit (c - 1) = true := by
      have := tb_shl (f (rmS (rmS R P) S)) 1 c
      rw [Nat.pow_one] at this
      rw [this, Bool.and_eq_true, decide_eq_true_iff]
    rw [e]
    by_cases y : R &&& T = 0
    · rw [if_pos y, Nat.zero_testBit]
      constructor
      · rintro (h | h)
        · exact ⟨z, .inl h⟩
        · cases h
      · rintro ⟨_, h | h⟩
        · exact .inl h
        · exact absurd y h.1
    · rw [if_neg y]
      constructor
      · rintro (h | h)
        · exact ⟨z, .inl h⟩
        · exact ⟨z, .inr ⟨y, h⟩⟩
      · rintro ⟨_, h | h⟩
        · exact .inl h
        · exact .inr h.2
theorem and_pw {R q : Nat} : R &&& 2 ^ q ≠ 0 ↔ R.testBit q = true := by
  rw [Ne, fb_bit_nat]; simp
/-- one way: a couple or a three from place p with step k -/
theorem alg_way {f : Nat → Nat} {R p q r c : Nat} {S T : Nat} {oS oT : Prop} [Decidable oS] [Decidable oT] (hS : S = if oS then 2 ^ q else 0) (hT : T = if oT then 2 ^ r else 0) : (alg f R (2 ^ p) S T).testBit c = true ↔ (oS ∧ R.testBit q = true ∧ 1 ≤ c ∧ (f (rmS (rmS R (2 ^ p)) (2 ^ q))).testBit (c - 1) = true) ∨ (oS ∧ R.testBit q = true ∧ oT ∧ R.testBit r = true ∧ (f (rmS (rmS (rmS R (2 ^ p)) (2 ^ q)) (2 ^ r))).testBit c = true) := by
  rw [alg_bit]
  by_cases a : oS
  · rw [hS, if_pos a, and_pw]
    by_cases b : oT
    · rw [hT, if_pos b, and_pw]
      constructor
      · rintro ⟨x, y | y⟩
        · exact .inl ⟨a, x, y⟩
        · exact .inr ⟨a, x, b, y⟩
      · rintro (⟨_, x, y⟩ | ⟨_, x, _, y⟩)
        · exact ⟨x, .inl y⟩
        · exact ⟨x, .inr y⟩
    · rw [hT, if_neg b]
      constructor
      · rintro ⟨x, y | y⟩
        · exact .inl ⟨a, x, y⟩
        · exact absurd (Nat.and_zero R) y.1
      · rintro (⟨_, x, y⟩ | ⟨_, _, x, _⟩)
        · exact ⟨x, .inl y⟩
        · exact absurd x b
  · rw [hS, if_neg a]
    constructor
    · rintro ⟨x, _⟩; exact absurd (Nat.and_zero R) x
    · rintro (⟨x, _⟩ | ⟨x, _⟩) <;> exact absurd x a
theorem rt2_pw {p : Nat} (hp : p < 64) : rtN (rtN (2 ^ p)) = if p % 8 < 6 then 2 ^ (p + 2) else 0 := by
  rw [rtN_pw hp]
  by_cases z : p % 8 < 7
  · rw [if_pos z, rtN_pw (by omega)]
    by_cases y : p % 8 < 6
    · rw [if_pos (by omega), if_pos y]
    · rw [if_neg (by omega), if_neg y]
  · rw [if_neg z, rtN_0, if_neg (by omega)]
theorem sp_bit {R p c : Nat} (hR : R < 2 ^ 64) (h24 : pop R ≤ 24) (h0 : R ≠ 0) (hp : p = lbp R) : (sp 24 R).testBit c = true ↔
    ((p % 8 < 7 ∧ R.testBit (p + 1) = true ∧ 1 ≤ c ∧ (sp 24 (rmS (rmS R (2 ^ p)) (2 ^ (p + 1)))).testBit (c - 1) = true) ∨ (p % 8 < 7 ∧ R.testBit (p + 1) = true ∧ p % 8 < 6 ∧ R.testBit (p + 2) = true ∧ (sp 24 (rmS (rmS (rmS R (2 ^ p)) (2 ^ (p + 1))) (2 ^ (p + 2)))).testBit c = true)) ∨
    ((p + 8 < 64 ∧ R.testBit (p + 8) = true ∧ 1 ≤ c ∧ (sp 24 (rmS (rmS R (2 ^ p)) (2 ^ (p + 8)))).testBit (c - 1) = true) ∨ (p + 8 < 64 ∧ R.testBit (p + 8) = true ∧ p + 16 < 64 ∧ R.testBit (p + 16) = true ∧ (sp 24 (rmS (rmS (rmS R (2 ^ p)) (2 ^ (p + 8))) (2 ^ (p + 16)))).testBit c = true)) := by
  obtain ⟨h1, h2, _, _⟩ := low_p hR h0
  rw [sp_e hR h24 h0, ← hp, Nat.testBit_or, Bool.or_eq_true]
  rw [← hp] at h2
  rw [alg_way (rtN_pw h2) (rt2_pw h2), alg_way upN_pw upN_pw]
