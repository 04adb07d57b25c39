/-! ===== parting: the reference parts ===== -/
theorem sp_pop : ∀ n R c, R < 2 ^ 64 → pop R ≤ n → n ≤ 24 → (sp 24 R).testBit c = true → ∃ t, pop R = 2 * c + 3 * t
  | 0, R, c, hR, hn, _, h => by
    have z := (pop_z hR).mp (by omega)
    subst z
    rw [show sp 24 0 = 1 by rw [sp, if_pos rfl]] at h
    have : c = 0 := by
      rcases Nat.eq_zero_or_pos c with q | q
      · exact q
      · obtain ⟨c', rfl⟩ : ∃ c', c = c' + 1 := ⟨c - 1, by omega⟩
        rw [Nat.testBit_succ] at h
        simp at h
    subst this
    exact ⟨0, pop_0⟩
  | n + 1, R, c, hR, hn, h24, h => by
    by_cases z : R = 0
    · exact sp_pop 0 R c hR (by rw [z, pop_0]; exact Nat.le_refl _) (by decide) h
    · obtain ⟨h1, h2, _, _⟩ := low_p hR z
      obtain ⟨p, ep⟩ : ∃ p, p = lbp R := ⟨_, rfl⟩
      rw [sp_bit hR (by omega) z ep] at h
      rw [← ep] at h1 h2
      have p1 := rmS_pop hR h1
      have two : ∀ q, q ≠ p → R.testBit q = true → pop (rmS (rmS R (2 ^ p)) (2 ^ q)) + 2 = pop R := fun q ne hq => by
        have hq' : (rmS R (2 ^ p)).testBit q = true := (rmS_tb hR).mpr ⟨hq, by rw [Nat.testBit_two_pow]; exact decide_eq_false (fun t => ne t.symm)⟩
        have p2 := rmS_pop (R := rmS R (2 ^ p)) rmS_lt hq'
        omega
      have three : ∀ q r, q ≠ p → r ≠ p → r ≠ q → R.testBit q = true → R.testBit r = true → pop (rmS (rmS (rmS R (2 ^ p)) (2 ^ q)) (2 ^ r)) + 3 = pop R := fun q r n1 n2 n3 hq hr => by
        have hr' : (rmS (rmS R (2 ^ p)) (2 ^ q)).testBit r = true := (rmS_tb rmS_lt).mpr ⟨(rmS_tb hR).mpr ⟨hr, by rw [Nat.testBit_two_pow]; exact decide_eq_false (fun t => n2 t.symm)⟩, by rw [Nat.testBit_two_pow]; exact decide_eq_false (fun t => n3 t.symm)⟩
        have p3 := rmS_pop (R := rmS (rmS R (2 ^ p)) (2 ^ q)) rmS_lt hr'
        have := two q n1 hq
        omega
      rcases h with (⟨_, a, b, e⟩ | ⟨_, a, _, b, e⟩) | (⟨_, a, b, e⟩ | ⟨_, a, _, b, e⟩)
      · have w := two (p + 1) (by omega) a
        obtain ⟨t, et⟩ := sp_pop n _ (c - 1) rmS_lt (by omega) (by omega) e
        exact ⟨t, by omega⟩
      · have w := three (p + 1) (p + 2) (by omega) (by omega) (by omega) a b
        obtain ⟨t, et⟩ := sp_pop n _ c rmS_lt (by omega) (by omega) e
        exact ⟨t + 1, by omega⟩
      · have w := two (p + 8) (by omega) a
        obtain ⟨t, et⟩ := sp_pop n _ (c - 1) rmS_lt (by omega) (by omega) e
        exact ⟨t, by omega⟩
      · have w := three (p + 8) (p + 16) (by omega) (by omega) (by omega) a b
        obtain ⟨t, et⟩ := sp_pop n _ c rmS_lt (by omega) (by omega) e
        exact ⟨t + 1, by omega⟩
/-- the row of what is done -/
def DNr (F R : Nat) (f : Nat → Int32) : Prop := ∀ i, i < pop F → f i = bI (!R.testBit (pl F i))
theorem DNr_rm {F R i : Nat} {f : Nat → Int32} (hR : R < 2 ^ 64) (hi : i < pop F) (h : DNr F R f) : DNr F (rmS R (2 ^ pl F i)) (va_up f i (nI 1)) := fun j hj => by
  by_cases z : j = i
  · subst z
    rw [vu_eq]
    have : (rmS R (2 ^ pl F j)).testBit (pl F j) = false := by
      rw [← Bool.not_eq_true, rmS_tb hR, Nat.testBit_two_pow]; simp
    rw [this]; rfl
  · rw [vu_ne z, h j hj]
    have : (rmS R (2 ^ pl F i)).testBit (pl F j) = R.testBit (pl F j) := by
      rw [Bool.eq_iff_iff, rmS_tb hR, Nat.testBit_two_pow]
      exact ⟨fun q => q.1, fun q => ⟨q, decide_eq_false (fun e => z (pl_inj hj hi e.symm))⟩⟩
    rw [this]
section
variable {X : Nat × (Nat → Int32)} {d : Nat} {I : Nat → Nat → Int32} {J : Nat → Nat → Int64} {r : Option Value × Mem} {s c lf i x y : Int32} {f : Nat → Int32}
/-- behind the look for cells: a couple -/
theorem r_cp {w j : Nat} {i' : Nat} {v : Bool} {bv : Int32} (hf : I 194 = f) (hi : i = nI i') (hi24 : i' < 24) (fi : f i' = nI 0)
    (h49 : v = false → ∀ u11 : Value, Ev X d 241 49 [.ref 177, .int s, .int c, .int lf, .int i, .int x, .int y, .int (nI w), .int (nI 2), .int bv, .int (-1), u11] [] (mk I J) r)
    (hb : (v = false ∧ bv = -1) ∨ (v = false ∧ bv = nI j ∧ j < 24 ∧ f j = nI 1) ∨ (bv = nI j ∧ j < 24 ∧ j ≠ i' ∧ f j = nI 0 ∧ callF X d 241 [.ref 177, .int s, .int (c - nI 1), .int (lf - nI 2)] (mk (va_up I 194 (va_up (va_up f i' (nI 1)) j (nI 1))) J) = some (some (.int (bI v)), mk (va_up I 194 (va_up (va_up f i' (nI 1)) j (nI 1))) J) ∧ (v = true → r = (some (.int (nI 1)), mk I J)))) :
    ∀ u10 u11 : Value, Ev X d 241 34 [.ref 177, .int s, .int c, .int lf, .int i, .int x, .int y, .int (nI w), .int (nI 2), .int bv, u10, u11] [.int (-1)] (mk I J) r := fun u10 u11 => by
  subst hi
  rcases hb with ⟨v0, rfl⟩ | ⟨v0, rfl, j24, fj⟩ | ⟨rfl, j24, ne, fj, rc, hv⟩
  · have k := h49 v0 u11
    simp (disch := first | omega | assumption | exact rfl) only [U_241_34, XX, QQ, WW, KK, QX, SHs, RRs, Nat.reduceAdd, Nat.reduceMul, Nat.reduceLeDiff, Nat.reduceEqDiff, List.length_cons, List.length_nil, decide_true, decide_false, Bool.true_and, Bool.and_true, Bool.false_and, Bool.and_false, false_and, and_false, Bool.false_eq_true, Bool.true_eq_false, reduceCtorEq, eq_self, if_true, if_false, true_and, and_true, not_true_eq_false, not_false_eq_true, if_pos, if_neg, z_ite_not, false_or, or_false, true_or, or_true, SWs, swk_0, swk_1]
    exact k
  · have k := h49 v0 u11
    have jn := nI_ne (b := j) (by omega)
    simp (disch := first | omega | assumption | exact rfl) only [U_241_34, U_241_35, XX, QQ, WW, KK, QX, SHs, RRs, Nat.reduceAdd, Nat.reduceMul, Nat.reduceLeDiff, Nat.reduceEqDiff, List.length_cons, List.length_nil, decide_true, decide_false, Bool.true_and, Bool.and_true, Bool.false_and, Bool.and_false, false_and, and_false, Bool.false_eq_true, Bool.true_eq_false, reduceCtorEq, eq_self, if_true, if_false, true_and, and_true, not_true_eq_false, not_false_eq_true, if_pos, if_neg, z_ite_not, false_or, or_false, true_or, or_true, SWs, swk_0, swk_1, hf, fj, jn]
    exact k
  · have jn := nI_ne (b := j) (by omega)
    have back : va_up (va_up (va_up (va_up f i' (nI 1)) j (nI 1)) i' (nI 0)) j (nI 0) = f := by
      funext q
      by_cases q1 : q = j
      · subst q1; rw [vu_eq, fj]
      · rw [vu_ne q1]
        by_cases q2 : q = i'
        · subst q2; rw [vu_eq, fi]
        · rw [vu_ne q2, vu_ne q1, vu_ne q2]
    have same : va_up I 194 f = I := vu_same hf
    cases v with
    | true =>
      have rc : callF X d 241 [.ref 177, .int s, .int (c - nI 1), .int (lf - nI 2)] (mk (va_up I 194 (va_up (va_up f i' (nI 1)) j (nI 1))) J) = some (some (.int (nI 1)), mk (va_up I 194 (va_up (va_up f i' (nI 1)) j (nI 1))) J) := rc
      rw [hv rfl]
      simp (disch := first | omega | assumption | exact rfl) only [U_241_34, U_241_35, U_241_36, U_241_40, U_241_42, U_241_43, U_241_45, U_241_47, U_241_48, XX, QQ, WW, KK, QX, SHs, RRs, Nat.reduceAdd, Nat.reduceMul, Nat.reduceLeDiff, Nat.reduceEqDiff, List.length_cons, List.length_nil, decide_true, decide_false, Bool.true_and, Bool.and_true, Bool.false_and, Bool.and_false, false_and, and_false, Bool.false_eq_true, Bool.true_eq_false, reduceCtorEq, eq_self, if_true, if_false, true_and, and_true, not_true_eq_false, not_false_eq_true, if_pos, if_neg, z_ite_not, false_or, or_false, true_or, or_true, SWs, swk_0, swk_1, hf, fj, jn, rc, back, same]
    | false =>
      have rc : callF X d 241 [.ref 177, .int s, .int (c - nI 1), .int (lf - nI 2)] (mk (va_up I 194 (va_up (va_up f i' (nI 1)) j (nI 1))) J) = some (some (.int (nI 0)), mk (va_up I 194 (va_up (va_up f i' (nI 1)) j (nI 1))) J) := rc
      have k := h49 rfl (.int (nI 0))
      simp (disch := first | omega | assumption | exact rfl) only [U_241_34, U_241_35, U_241_36, U_241_40, U_241_42, U_241_43, U_241_45, U_241_47, XX, QQ, WW, KK, QX, SHs, RRs, Nat.reduceAdd, Nat.reduceMul, Nat.reduceLeDiff, Nat.reduceEqDiff, List.length_cons, List.length_nil, decide_true, decide_false, Bool.true_and, Bool.and_true, Bool.false_and, Bool.and_false, false_and, and_false, Bool.false_eq_true, Bool.true_eq_false, reduceCtorEq, eq_self, if_true, if_false, true_and, and_true, not_true_eq_false, not_false_eq_true, if_pos, if_neg, z_ite_not, false_or, or_false, true_or, or_true, SWs, swk_0, swk_1, hf, fj, jn, rc, back, same]
      exact k
/-- behind the look for cells: a three -/
theorem r_th {w j m : Nat} {i' : Nat} {v : Bool} {bv cv : Int32} (hf : I 194 = f) (hi : i = nI i') (hi24 : i' < 24) (fi : f i' = nI 0)
    (h49 : v = false → ∀ u11 : Value, Ev X d 241 49 [.ref 177, .int s, .int c, .int lf, .int i, .int x, .int y, .int (nI w), .int (nI 3), .int bv, .int cv, u11] [] (mk I J) r)
    (hb : (v = false ∧ bv = -1) ∨ (v = false ∧ bv = nI j ∧ j < 24 ∧ f j = nI 1) ∨ (v = false ∧ bv = nI j ∧ j < 24 ∧ f j = nI 0 ∧ cv = -1) ∨ (v = false ∧ bv = nI j ∧ j < 24 ∧ f j = nI 0 ∧ cv = nI m ∧ m < 24 ∧ f m = nI 1) ∨ (bv = nI j ∧ j < 24 ∧ j ≠ i' ∧ f j = nI 0 ∧ cv = nI m ∧ m < 24 ∧ m ≠ i' ∧ m ≠ j ∧ f m = nI 0 ∧ callF X d 241 [.ref 177, .int s, .int c, .int (lf - nI 3)] (mk (va_up I 194 (va_up (va_up (va_up f i' (nI 1)) j (nI 1)) m (nI 1))) J) = some (some (.int (bI v)), mk (va_up I 194 (va_up (va_up (va_up f i' (nI 1)) j (nI 1)) m (nI 1))) J) ∧ (v = true → r = (some (.int (nI 1)), mk I J)))) :
    ∀ u10 u11 : Value, Ev X d 241 34 [.ref 177, .int s, .int c, .int lf, .int i, .int x, .int y, .int (nI w), .int (nI 3), .int bv, u10, u11] [.int cv] (mk I J) r := fun u10 u11 => by
  subst hi
  rcases hb with ⟨v0, rfl⟩ | ⟨v0, rfl, j24, fj⟩ | ⟨v0, rfl, j24, fj, rfl⟩ | ⟨v0, rfl, j24, fj, rfl, m24, fm⟩ | ⟨rfl, j24, ne, fj, rfl, m24, n1, n2, fm, rc, hv⟩
  · have k := h49 v0 u11
    simp (disch := first | omega | assumption | exact rfl) only [U_241_34, XX, QQ, WW, KK, QX, SHs, RRs, Nat.reduceAdd, Nat.reduceMul, Nat.reduceLeDiff, Nat.reduceEqDiff, List.length_cons, List.length_nil, decide_true, decide_false, Bool.true_and, Bool.and_true, Bool.false_and, Bool.and_false, false_and, and_false, Bool.false_eq_true, Bool.true_eq_false, reduceCtorEq, eq_self, if_true, if_false, true_and, and_true, not_true_eq_false, not_false_eq_true, if_pos, if_neg, z_ite_not, false_or, or_false, true_or, or_true, SWs, swk_0, swk_1]
    exact k
  · have k := h49 v0 u11
    have jn := nI_ne (b := j) (by omega)
    simp (disch := first | omega | assumption | exact rfl) only [U_241_34, U_241_35, XX, QQ, WW, KK, QX, SHs, RRs, Nat.reduceAdd, Nat.reduceMul, Nat.reduceLeDiff, Nat.reduceEqDiff, List.length_cons, List.length_nil, decide_true, decide_false, Bool.true_and, Bool.and_true, Bool.false_and, Bool.and_false, false_and, and_false, Bool.false_eq_true, Bool.true_eq_false, reduceCtorEq, eq_self, if_true, if_false, true_and, and_true, not_true_eq_false, not_false_eq_true, if_pos, if_neg, z_ite_not, false_or, or_false, true_or, or_true, SWs, swk_0, swk_1, hf, fj, jn]
    exact k
  · have k := h49 v0 u11
    have jn := nI_ne (b := j) (by omega)
    simp (disch := first | omega | assumption | exact rfl) only [U_241_34, U_241_35, U_241_36, U_241_37, XX, QQ, WW, KK, QX, SHs, RRs, Nat.reduceAdd, Nat.reduceMul, Nat.reduceLeDiff, Nat.reduceEqDiff, List.length_cons, List.length_nil, decide_true, decide_false, Bool.true_and, Bool.and_true, Bool.false_and, Bool.and_false, false_and, and_false, Bool.false_eq_true, Bool.true_eq_false, reduceCtorEq, eq_self, if_true, if_false, true_and, and_true, not_true_eq_false, not_false_eq_true, if_pos, if_neg, z_ite_not, false_or, or_false, true_or, or_true, SWs, swk_0, swk_1, hf, fj, jn]
    exact k
  · have k := h49 v0 u11
    have jn := nI_ne (b := j) (by omega)
    have mn := nI_ne (b := m) (by omega)
    simp (disch := first | omega | assumption | exact rfl) only [U_241_34, U_241_35, U_241_36, U_241_37, U_241_38, U_241_39, XX, QQ, WW, KK, QX, SHs, RRs, Nat.reduceAdd, Nat.reduceMul, Nat.reduceLeDiff, Nat.reduceEqDiff, List.length_cons, List.length_nil, decide_true, decide_false, Bool.true_and, Bool.and_true, Bool.false_and, Bool.and_false, false_and, and_false, Bool.false_eq_true, Bool.true_eq_false, reduceCtorEq, eq_self, if_true, if_false, true_and, and_true, not_true_eq_false, not_false_eq_true, if_pos, if_neg, z_ite_not, false_or, or_false, true_or, or_true, SWs, swk_0, swk_1, hf, fj, jn, mn, fm]
    exact k
  · have jn := nI_ne (b := j) (by omega)
    have mn := nI_ne (b := m) (by omega)
    have back : va_up (va_up (va_up (va_up (va_up (va_up f i' (nI 1)) j (nI 1)) m (nI 1)) i' (nI 0)) j (nI 0)) m (nI 0) = f := by
      funext q
      by_cases q3 : q = m
      · subst q3; rw [vu_eq, fm]
      · rw [vu_ne q3]
        by_cases q1 : q = j
        · subst q1; rw [vu_eq, fj]
        · rw [vu_ne q1]
          by_cases q2 : q = i'
          · subst q2; rw [vu_eq, fi]
          · rw [vu_ne q2, vu_ne q3, vu_ne q1, vu_ne q2]
    have same : va_up I 194 f = I := vu_same hf
    cases v with
    | true =>
      have rc : callF X d 241 [.ref 177, .int s, .int c, .int (lf - nI 3)] (mk (va_up I 194 (va_up (va_up (va_up f i' (nI 1)) j (nI 1)) m (nI 1))) J) = some (some (.int (nI 1)), mk (va_up I 194 (va_up (va_up (va_up f i' (nI 1)) j (nI 1)) m (nI 1))) J) := rc
      rw [hv rfl]
      simp (disch := first | omega | assumption | exact rfl) only [U_241_34, U_241_35, U_241_36, U_241_37, U_241_38, U_241_40, U_241_41, U_241_42, U_241_44, U_241_45, U_241_46, U_241_47, U_241_48, XX, QQ, WW, KK, QX, SHs, RRs, Nat.reduceAdd, Nat.reduceMul, Nat.reduceLeDiff, Nat.reduceEqDiff, List.length_cons, List.length_nil, decide_true, decide_false, Bool.true_and, Bool.and_true, Bool.false_and, Bool.and_false, false_and, and_false, Bool.false_eq_true, Bool.true_eq_false, reduceCtorEq, eq_self, if_true, if_false, true_and, and_true, not_true_eq_false, not_false_eq_true, if_pos, if_neg, z_ite_not, false_or, or_false, true_or, or_true, SWs, swk_0, swk_1, hf, fj, jn, mn, fm, rc, back, same]
    | false =>
      have rc : callF X d 241 [.ref 177, .int s, .int c, .int (lf - nI 3)] (mk (va_up I 194 (va_up (va_up (va_up f i' (nI 1)) j (nI 1)) m (nI 1))) J) = some (some (.int (nI 0)), mk (va_up I 194 (va_up (va_up (va_up f i' (nI 1)) j (nI 1)) m (nI 1))) J) := rc
      have k := h49 rfl (.int (nI 0))
      simp (disch := first | omega | assumption | exact rfl) only [U_241_34, U_241_35, U_241_36, U_241_37, U_241_38, U_241_40, U_241_41, U_241_42, U_241_44, U_241_45, U_241_46, U_241_47, XX, QQ, WW, KK, QX, SHs, RRs, Nat.reduceAdd, Nat.reduceMul, Nat.reduceLeDiff, Nat.reduceEqDiff, List.length_cons, List.length_nil, decide_true, decide_false, Bool.true_and, Bool.and_true, Bool.false_and, Bool.and_false, false_and, and_false, Bool.false_eq_true, Bool.true_eq_false, reduceCtorEq, eq_self, if_true, if_false, true_and, and_true, not_true_eq_false, not_false_eq_true, if_pos, if_neg, z_ite_not, false_or, or_false, true_or, or_true, SWs, swk_0, swk_1, hf, fj, jn, mn, fm, rc, back, same]
      exact k
end
