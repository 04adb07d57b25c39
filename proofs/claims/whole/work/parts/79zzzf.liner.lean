/-! ===== a line of a rule: the reference's tail ===== -/
section LNR
variable {X : Nat × (Nat → Int32)} {tp : Nat → Nat} {tl m L : Nat}
def RtF (X : Nat × (Nat → Int32)) (tp : Nat → Nat) (tl m k p : Nat) : Prop := ∀ (d : Nat) (I : Nat → Nat → Int32) (J : Nat → Nat → Int64) (Q : List (Nat × Nat)) (L : Nat) (w : Int32), 46 ≤ d → L < 16 → RPs I tp tl m Q 0 → Q.length ≤ m → I 177 10 = nI L → ∃ I', RFk I I' k p ∧ Ev X d 180 7 [.ref 177, .int w] [] (mk I J) (some (.int (nI 0)), mk I' J)
def RtT (X : Nat × (Nat → Int32)) (tp : Nat → Nat) (tl m m' : Nat) (S : List (Nat × Nat)) : Prop := ∀ (d : Nat) (I : Nat → Nat → Int32) (J : Nat → Nat → Int64) (Q : List (Nat × Nat)) (L : Nat) (w : Int32), 46 ≤ d → L < 16 → RPs I tp tl m Q 0 → Q.length ≤ m → I 177 10 = nI L → ∃ I', RFq I I' ∧ RPs I' tp tl m' (Q ++ S) 0 ∧ (∀ i, i < 4 * L + 2 → I' 180 i = I 180 i) ∧ I' 180 (4 * L + 2) = nI Q.length ∧ I' 180 (4 * L + 3) = nI (Q.length + S.length) ∧ Ev X d 180 7 [.ref 177, .int w] [] (mk I J) (some (.int (nI 1)), mk I' J)
theorem RPs_180 {I : Nat → Nat → Int32} {Q : List (Nat × Nat)} {o : Nat} {g : Nat → Int32} (h : RPs I tp tl m Q o) : RPs (va_up I 180 g) tp tl m Q o := RPs_fr (vu_ne (by decide)) (vu_ne (by decide)) (vu_ne (by decide)) h
theorem rk_3 {k : Nat} (h : k < 276) (h2 : k ≠ 267) : ¬ rtk false k = 3 := fun z => h2 ((rq_3 k h).2.2.2.1.mp z)
theorem rt_0 (k1 : psK tp tl m = 59) : RtT X tp tl m (m + 1) [] := by
  intro d I J Q L w hd hL h hq h10
  have h11 := h.2.2.2.2.1
  have q6 := RPs_l h
  have s1 := RPs_180 (g := va_up (va_up (I 180) (4 * L + 2) (nI Q.length)) (4 * L + 3) (nI Q.length)) h
  obtain ⟨I3, e3, f3, s3⟩ := r_needY (X := X) (d := d) (J := J) (by omega) s1 k1 (by decide) (c := 159) (by decide)
  obtain ⟨k5, k6, k7⟩ := RPs_k h
  rw [k1, show rtk false 59 = 159 by decide] at k5
  have z4 : 4 * L + 2 < 64 := by omega
  have z5 : 4 * L + 3 < 64 := by omega
  refine ⟨I3, RFq_t RFq_180 (RFq_r f3), ?_, ?_, ?_, ?_, ?_⟩
  · rw [List.append_nil]; exact s3
  · intro i hi
    have i1 : i ≠ 4 * L + 2 := by omega
    have i2 : i ≠ 4 * L + 3 := by omega
    rw [f3.1 180 (by decide) (by decide), vu_eq, vu_ne i2, vu_ne i1]
  · rw [f3.1 180 (by decide) (by decide), vu_eq, vu_ne (by omega), vu_eq]
  · rw [f3.1 180 (by decide) (by decide), vu_eq, vu_eq]; rfl
  · simp (disch := first | omega | assumption | exact rfl) only [U_180_7, U_180_10, XX, QQ, WW, KK, QX, SHs, RRs, Nat.reduceAdd, Nat.reduceMul, Nat.reduceLeDiff, Nat.reduceEqDiff, List.length_cons, List.length_nil, decide_true, decide_false, Bool.true_and, Bool.and_true, Bool.false_and, Bool.and_false, false_and, and_false, Bool.false_eq_true, Bool.true_eq_false, reduceCtorEq, eq_self, if_true, if_false, true_and, and_true, not_true_eq_false, not_false_eq_true, if_pos, if_neg, z_ite_not, false_or, or_false, true_or, or_true, SWs, swk_0, swk_1, h10, h11, k5, e3]
theorem rt_0F (k1 : psK tp tl m ≠ 59) (k2 : psK tp tl m ≠ 267) : RtF X tp tl m 1 (tpo tp tl m) := by
  intro d I J Q L w hd hL h hq h10
  have kb := psK_b (tp := tp) (tl := tl) (m := m)
  have h11 := h.2.2.2.2.1
  have q6 := RPs_l h
  have s1 := RPs_180 (g := va_up (va_up (I 180) (4 * L + 2) (nI Q.length)) (4 * L + 3) (nI Q.length)) h
  obtain ⟨I3, e3, f3⟩ := r_needF (X := X) (d := d) (J := J) (c := 159) (by omega) s1 (fun z => k1 ((rq_3 _ kb).2.2.2.2.1.mp z)) (by decide)
  obtain ⟨k5, k6, k7⟩ := RPs_k h
  have z3 := rk_3 kb k2
  have z6 := (rq_4 _ kb).2.2.2.2
  have z4 : 4 * L + 2 < 64 := by omega
  have z5 : 4 * L + 3 < 64 := by omega
  refine ⟨I3, RFk_t RFq_180 (RFk_l f3), ?_⟩
  simp (disch := first | omega | assumption | exact rfl) only [U_180_7, U_180_10, XX, QQ, WW, KK, QX, SHs, RRs, Nat.reduceAdd, Nat.reduceMul, Nat.reduceLeDiff, Nat.reduceEqDiff, List.length_cons, List.length_nil, decide_true, decide_false, Bool.true_and, Bool.and_true, Bool.false_and, Bool.and_false, false_and, and_false, Bool.false_eq_true, Bool.true_eq_false, reduceCtorEq, eq_self, if_true, if_false, true_and, and_true, not_true_eq_false, not_false_eq_true, if_pos, if_neg, z_ite_not, false_or, or_false, true_or, or_true, SWs, swk_0, swk_1, h10, h11, k5, z3, e3]
theorem rt_1 {m1 : Nat} {S : List (Nat × Nat)} (k1 : psK tp tl m = 267) (hc : ROk X 46 177 tp tl (m + 1) 0 m1 S) (k2 : psK tp tl m1 = 59) : RtT X tp tl m (m1 + 1) S := by
  intro d I J Q L w hd hL h hq h10
  have hm := psK_lt h.2.2.2.1 (by omega)
  have h11 := h.2.2.2.2.1
  have q6 := RPs_l h
  obtain ⟨k5, k6, k7⟩ := RPs_k h
  rw [k1, show rtk false 267 = 3 by decide] at k5
  obtain ⟨Ia, ea, fa, sa⟩ := r_nx (X := X) (d := d) (J := J) (by omega) (RPs_180 (g := va_up (I 180) (4 * L + 2) (nI Q.length)) h) hm
  obtain ⟨Ib, eb, fb, sb⟩ := hc d Ia J Q (by omega) sa (by omega)
  have g11 := sb.2.2.2.2.1
  have g10 : Ib 177 10 = nI L := by
    rw [fb.2 10 (by decide) (by decide) (by decide) (by decide) (by decide) (by decide) (by decide), fa.2 10 (by decide) (by decide) (by decide) (by decide) (by decide) (by decide) (by decide), vu_ne (by decide)]; exact h10
  have s1 := RPs_180 (g := va_up (Ib 180) (4 * L + 3) (nI (Q ++ S).length)) sb
  obtain ⟨I3, e3, f3, s3⟩ := r_needY (X := X) (d := d) (J := J) (by omega) s1 k2 (by decide) (c := 159) (by decide)
  have z4 : 4 * L + 2 < 64 := by omega
  have z5 : 4 * L + 3 < 64 := by omega
  have fq : Ib 180 = va_up (I 180) (4 * L + 2) (nI Q.length) := by rw [fb.1 180 (by decide) (by decide), fa.1 180 (by decide) (by decide), vu_eq]
  refine ⟨I3, RFq_t RFq_180 (RFq_t (RFq_r fa) (RFq_t (RFq_r fb) (RFq_t RFq_180 (RFq_r f3)))), s3, ?_, ?_, ?_, ?_⟩
  · intro i hi
    have i1 : i ≠ 4 * L + 2 := by omega
    have i2 : i ≠ 4 * L + 3 := by omega
    rw [f3.1 180 (by decide) (by decide), vu_eq, vu_ne i2, fq, vu_ne i1]
  · rw [f3.1 180 (by decide) (by decide), vu_eq, vu_ne (by omega), fq, vu_eq]
  · rw [f3.1 180 (by decide) (by decide), vu_eq, vu_eq, List.length_append]
  · simp (disch := first | omega | assumption | exact rfl) only [U_180_7, U_180_8, U_180_10, XX, QQ, WW, KK, QX, SHs, RRs, Nat.reduceAdd, Nat.reduceMul, Nat.reduceLeDiff, Nat.reduceEqDiff, List.length_cons, List.length_nil, decide_true, decide_false, Bool.true_and, Bool.and_true, Bool.false_and, Bool.and_false, false_and, and_false, Bool.false_eq_true, Bool.true_eq_false, reduceCtorEq, eq_self, if_true, if_false, true_and, and_true, not_true_eq_false, not_false_eq_true, if_pos, if_neg, z_ite_not, false_or, or_false, true_or, or_true, SWs, swk_0, swk_1, h10, h11, k5, ea, eb, g10, g11, e3]
theorem rt_1F {k p : Nat} (k1 : psK tp tl m = 267) (hc : RNo X 46 177 tp tl (m + 1) 0 k p) : RtF X tp tl m k p := by
  intro d I J Q L w hd hL h hq h10
  have hm := psK_lt h.2.2.2.1 (by omega)
  have h11 := h.2.2.2.2.1
  have q6 := RPs_l h
  obtain ⟨k5, k6, k7⟩ := RPs_k h
  rw [k1, show rtk false 267 = 3 by decide] at k5
  obtain ⟨Ia, ea, fa, sa⟩ := r_nx (X := X) (d := d) (J := J) (by omega) (RPs_180 (g := va_up (I 180) (4 * L + 2) (nI Q.length)) h) hm
  obtain ⟨Ib, eb, fb⟩ := hc d Ia J Q (by omega) sa (by omega)
  have z4 : 4 * L + 2 < 64 := by omega
  refine ⟨Ib, RFk_t RFq_180 (RFk_t (RFq_r fa) (RFk_l fb)), ?_⟩
  simp (disch := first | omega | assumption | exact rfl) only [U_180_7, U_180_8, U_180_9, XX, QQ, WW, KK, QX, SHs, RRs, Nat.reduceAdd, Nat.reduceMul, Nat.reduceLeDiff, Nat.reduceEqDiff, List.length_cons, List.length_nil, decide_true, decide_false, Bool.true_and, Bool.and_true, Bool.false_and, Bool.and_false, false_and, and_false, Bool.false_eq_true, Bool.true_eq_false, reduceCtorEq, eq_self, if_true, if_false, true_and, and_true, not_true_eq_false, not_false_eq_true, if_pos, if_neg, z_ite_not, false_or, or_false, true_or, or_true, SWs, swk_0, swk_1, h10, h11, k5, ea, eb]
theorem rt_2F {m1 : Nat} {S : List (Nat × Nat)} (k1 : psK tp tl m = 267) (hc : ROk X 46 177 tp tl (m + 1) 0 m1 S) (k2 : psK tp tl m1 ≠ 59) : RtF X tp tl m 1 (tpo tp tl m1) := by
  intro d I J Q L w hd hL h hq h10
  have kb := psK_b (tp := tp) (tl := tl) (m := m1)
  have hm := psK_lt h.2.2.2.1 (by omega)
  have h11 := h.2.2.2.2.1
  have q6 := RPs_l h
  obtain ⟨k5, k6, k7⟩ := RPs_k h
  rw [k1, show rtk false 267 = 3 by decide] at k5
  obtain ⟨Ia, ea, fa, sa⟩ := r_nx (X := X) (d := d) (J := J) (by omega) (RPs_180 (g := va_up (I 180) (4 * L + 2) (nI Q.length)) h) hm
  obtain ⟨Ib, eb, fb, sb⟩ := hc d Ia J Q (by omega) sa (by omega)
  have g11 := sb.2.2.2.2.1
  have g10 : Ib 177 10 = nI L := by
    rw [fb.2 10 (by decide) (by decide) (by decide) (by decide) (by decide) (by decide) (by decide), fa.2 10 (by decide) (by decide) (by decide) (by decide) (by decide) (by decide) (by decide), vu_ne (by decide)]; exact h10
  have s1 := RPs_180 (g := va_up (Ib 180) (4 * L + 3) (nI (Q ++ S).length)) sb
  obtain ⟨I3, e3, f3⟩ := r_needF (X := X) (d := d) (J := J) (c := 159) (by omega) s1 (fun z => k2 ((rq_3 _ kb).2.2.2.2.1.mp z)) (by decide)
  have z4 : 4 * L + 2 < 64 := by omega
  have z5 : 4 * L + 3 < 64 := by omega
  refine ⟨I3, RFk_t RFq_180 (RFk_t (RFq_r fa) (RFk_t (RFq_r fb) (RFk_t RFq_180 (RFk_l f3)))), ?_⟩
  simp (disch := first | omega | assumption | exact rfl) only [U_180_7, U_180_8, U_180_10, XX, QQ, WW, KK, QX, SHs, RRs, Nat.reduceAdd, Nat.reduceMul, Nat.reduceLeDiff, Nat.reduceEqDiff, List.length_cons, List.length_nil, decide_true, decide_false, Bool.true_and, Bool.and_true, Bool.false_and, Bool.and_false, false_and, and_false, Bool.false_eq_true, Bool.true_eq_false, reduceCtorEq, eq_self, if_true, if_false, true_and, and_true, not_true_eq_false, not_false_eq_true, if_pos, if_neg, z_ite_not, false_or, or_false, true_or, or_true, SWs, swk_0, swk_1, h10, h11, k5, ea, eb, g10, g11, e3]
/-- the tail of a line -/
theorem lineT (hm : m ≤ tkT tp tl) : (∃ k p, CtF X tp tl m k p ∧ RtF X tp tl m k p) ∨ ∃ m' S, m' ≤ tkT tp tl ∧ m < m' ∧ (segC S).length + m ≤ m' ∧ (S = [] ∨ ak S [] = some [true]) ∧ CtT X tp tl m m' S ∧ RtT X tp tl m m' S := by
  by_cases a : psK tp tl m = 267
  · have l1 := psK_lt hm (by omega)
    rcases any0 (X := X) (tp := tp) (tl := tl) (m := m + 1) (by omega) with ⟨k, p, c, r⟩ | ⟨m1, S, b1, b2, b3, b4, c, r⟩
    · exact Or.inl ⟨k, p, ct_1F a c, rt_1F a r⟩
    · by_cases b : psK tp tl m1 = 59
      · have l2 := psK_lt b1 (by omega)
        exact Or.inr ⟨m1 + 1, S, by omega, by omega, by omega, Or.inr (b4 [] (by decide)), ct_1 a c b, rt_1 a r b⟩
      · exact Or.inl ⟨1, _, ct_2F a c b, rt_2F a r b⟩
  · by_cases b : psK tp tl m = 59
    · have l2 := psK_lt hm (by omega)
      exact Or.inr ⟨m + 1, [], by omega, by omega, by simp [segC], Or.inl rfl, ct_0 b, rt_0 b⟩
    · exact Or.inl ⟨1, _, ct_0F b a, rt_0F b a⟩
end LNR
