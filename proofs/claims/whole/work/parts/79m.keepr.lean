/-! ===== the reference keeps a year ===== -/
def kR (g : Nat → Int32) (h : Nat) (bd kp gd : Int32) (N : Nat → Nat) (lv : Nat → Int32) (m : Nat) : Nat → Int32 := fun j => if j = 1430 + 51 * h then bd else if j = 1430 + 51 * h + 1 then kp else if j = 1430 + 51 * h + 2 then gd else if 1430 + 51 * h + 3 ≤ j ∧ j < 1430 + 51 * h + 3 + m then nI (N (j - (1430 + 51 * h + 3))) else if 1430 + 51 * h + 27 ≤ j ∧ j < 1430 + 51 * h + 27 + m then lv (j - (1430 + 51 * h + 27)) else g j
section KRR
variable {g : Nat → Int32} {h m : Nat} {bd kp gd : Int32} {N : Nat → Nat} {lv : Nat → Int32}
theorem kR_lo {j : Nat} (hj : j < 1430) : kR g h bd kp gd N lv m j = g j := by
  unfold kR
  rw [if_neg (by omega), if_neg (by omega), if_neg (by omega), if_neg (by omega), if_neg (by omega)]
theorem kR_0 : va_up (va_up (va_up g (1430 + 51 * h) bd) (1430 + 51 * h + 1) kp) (1430 + 51 * h + 2) gd = kR g h bd kp gd N lv 0 := by
  funext j; unfold kR
  by_cases z1 : j = 1430 + 51 * h
  · rw [if_pos z1, vu_ne (by omega), vu_ne (by omega), z1, vu_eq]
  · rw [if_neg z1]
    by_cases z2 : j = 1430 + 51 * h + 1
    · rw [if_pos z2, vu_ne (by omega), z2, vu_eq]
    · rw [if_neg z2]
      by_cases z3 : j = 1430 + 51 * h + 2
      · rw [if_pos z3, z3, vu_eq]
      · rw [if_neg z3, if_neg (by omega), if_neg (by omega), vu_ne z3, vu_ne z2, vu_ne z1]
theorem kR_s (hm : m < 24) : va_up (va_up (kR g h bd kp gd N lv m) (1430 + 51 * h + 3 + m) (nI (N m))) (1430 + 51 * h + 27 + m) (lv m) = kR g h bd kp gd N lv (m + 1) := by
  funext j
  by_cases z1 : j = 1430 + 51 * h + 27 + m
  · rw [z1, vu_eq]; unfold kR
    rw [if_neg (by omega), if_neg (by omega), if_neg (by omega), if_neg (by omega), if_pos (by omega), Nat.add_sub_cancel_left]
  · rw [vu_ne z1]
    by_cases z2 : j = 1430 + 51 * h + 3 + m
    · rw [z2, vu_eq]; unfold kR
      rw [if_neg (by omega), if_neg (by omega), if_neg (by omega), if_pos (by omega), Nat.add_sub_cancel_left]
    · rw [vu_ne z2]
      unfold kR
      by_cases a1 : j = 1430 + 51 * h
      · rw [if_pos a1, if_pos a1]
      · rw [if_neg a1, if_neg a1]
        by_cases a2 : j = 1430 + 51 * h + 1
        · rw [if_pos a2, if_pos a2]
        · rw [if_neg a2, if_neg a2]
          by_cases a3 : j = 1430 + 51 * h + 2
          · rw [if_pos a3, if_pos a3]
          · rw [if_neg a3, if_neg a3]
            by_cases a4 : 1430 + 51 * h + 3 ≤ j ∧ j < 1430 + 51 * h + 3 + m
            · rw [if_pos a4, if_pos (by omega)]
            · rw [if_neg a4, if_neg (show ¬ (1430 + 51 * h + 3 ≤ j ∧ j < 1430 + 51 * h + 3 + (m + 1)) by omega)]
              by_cases a5 : 1430 + 51 * h + 27 ≤ j ∧ j < 1430 + 51 * h + 27 + m
              · rw [if_pos a5, if_pos (by omega)]
              · rw [if_neg a5, if_neg (by omega)]
end KRR
theorem r_keepTail {X : Nat × (Nat → Int32)} {d : Nat} {I : Nat → Nat → Int32} {J : Nat → Nat → Int64} {F h yr oi ni kp : Nat} {B : Nat → Int32} {x N : Nat → Nat} {k s n3 bd n6 : Int32} {gd : Bool} {u7 : Value} (hd : 4 ≤ d) (hR : RWl (I 178) 0 F B) (hB : WB B (pop F)) (hNS : NS I oi ni x N) (hkp : fb_sm (fun b => pop (x b &&& N b)) 24 / 2 = kp) (h4 : I 178 4 = nI h) (hh : h ≤ 60) (h3 : I 178 3 = nI yr) (hy : yr ≤ 999) :
    ∃ g, Ev X d 231 18 [.ref 177, .int k, .int s, .int n3, .int bd, .int (bI gd), .int n6, u7] [] (mk I J) (some (.int (bI gd)), mk (va_up I 178 g) J) ∧ (h = 60 → g = va_up (I 178) 3 (nI (yr + 1))) ∧ (h < 60 → g = va_up (va_up (kR (I 178) h bd (nI kp) (bI gd) N (lfv F B) 24) 4 (nI (h + 1))) 3 (nI (yr + 1))) := by
  by_cases z : h = 60
  · refine ⟨va_up (I 178) 3 (nI (yr + 1)), ?_, fun _ => rfl, fun k => by omega⟩
    simp (disch := first | omega | assumption | exact rfl) only [U_231_18, U_231_26, XX, QQ, WW, KK, QX, SHs, RRs, Nat.reduceAdd, Nat.reduceMul, Nat.reduceLeDiff, Nat.reduceEqDiff, List.length_cons, List.length_nil, decide_true, decide_false, Bool.true_and, Bool.and_true, Bool.false_and, Bool.and_false, false_and, and_false, Bool.false_eq_true, Bool.true_eq_false, reduceCtorEq, eq_self, if_true, if_false, true_and, and_true, not_true_eq_false, not_false_eq_true, if_pos, if_neg, z_ite_not, false_or, or_false, true_or, or_true, SWs, swk_0, swk_1, h4, h3]
  · have hlt : h < 60 := by omega
    refine ⟨va_up (va_up (kR (I 178) h bd (nI kp) (bI gd) N (lfv F B) 24) 4 (nI (h + 1))) 3 (nI (yr + 1)), ?_, fun k => absurd k z, fun _ => rfl⟩
    have rk := r_keptOnes (X := X) (d := d) (I := va_up I 178 (va_up (I 178) (1430 + 51 * h) bd)) (J := J) (by omega) (oi := oi) (ni := ni) (x := x) (y := N) (by
      obtain ⟨s1, s2, s3, s4, s5⟩ := hNS
      exact ⟨by rw [vu_ne (by decide)]; exact s1, by rw [vu_ne (by decide)]; exact s2, by rw [vu_ne (by decide)]; exact s3, by rw [vu_ne (by decide)]; exact s4, s5⟩)
    rw [hkp] at rk
    have h187 := hNS.2.2.2.1
    obtain ⟨g0, eg0⟩ : ∃ g0, g0 = I 178 := ⟨_, rfl⟩
    have lp : ∀ u7 : Value, Ev X d 231 23 [.ref 177, .int k, .int s, .int n3, .int bd, .int (bI gd), .int (nI (1430 + 51 * h)), .int (nI 0)] [] (mk (va_up I 178 (kR g0 h bd (nI kp) (bI gd) N (lfv F B) 0)) J) (some (.int (bI gd)), mk (va_up I 178 (va_up (va_up (kR g0 h bd (nI kp) (bI gd) N (lfv F B) 24) 4 (nI (h + 1))) 3 (nI (yr + 1)))) J) := by
      intro u7
      refine lpI (n := 24) (P := fun m => Ev X d 231 23 [.ref 177, .int k, .int s, .int n3, .int bd, .int (bI gd), .int (nI (1430 + 51 * h)), .int (nI m)] [] (mk (va_up I 178 (kR g0 h bd (nI kp) (bI gd) N (lfv F B) m)) J) (some (.int (bI gd)), mk (va_up I 178 (va_up (va_up (kR g0 h bd (nI kp) (bI gd) N (lfv F B) 24) 4 (nI (h + 1))) 3 (nI (yr + 1)))) J)) ?_ ?_ (fun Q => Q)
      · have e4 : kR g0 h bd (nI kp) (bI gd) N (lfv F B) 24 4 = nI h := by rw [kR_lo (by omega), eg0]; exact h4
        have e3 : kR g0 h bd (nI kp) (bI gd) N (lfv F B) 24 3 = nI yr := by rw [kR_lo (by omega), eg0]; exact h3
        rw [U_231_23]
        simp (disch := first | omega | assumption | exact rfl) only [U_231_25, U_231_26, XX, QQ, WW, KK, QX, SHs, RRs, Nat.reduceAdd, Nat.reduceMul, Nat.reduceLeDiff, Nat.reduceEqDiff, List.length_cons, List.length_nil, decide_true, decide_false, Bool.true_and, Bool.and_true, Bool.false_and, Bool.and_false, false_and, and_false, Bool.false_eq_true, Bool.true_eq_false, reduceCtorEq, eq_self, if_true, if_false, true_and, and_true, not_true_eq_false, not_false_eq_true, if_pos, if_neg, z_ite_not, false_or, or_false, true_or, or_true, SWs, swk_0, swk_1, e4, e3]
      · intro m hm ih
        have e7 := h187 m hm
        rw [← kR_s hm] at ih
        have lf := r_leftOf (X := X) (d := d) (J := J) (I := va_up I 178 (va_up (kR g0 h bd (nI kp) (bI gd) N (lfv F B) m) (1430 + 51 * h + 3 + m) (nI (N m)))) (F := F) (B := B) (by omega) (RWl_tr (by decide) (fun i q1 q2 => by rw [vu_eq, vu_ne (by omega), kR_lo (by omega), eg0]) (fun _ _ => rfl) hR) hB hm
        rw [U_231_23]
        simp (disch := first | omega | assumption | exact rfl) only [U_231_24, XX, QQ, WW, KK, QX, SHs, RRs, Nat.reduceAdd, Nat.reduceMul, Nat.reduceLeDiff, Nat.reduceEqDiff, List.length_cons, List.length_nil, decide_true, decide_false, Bool.true_and, Bool.and_true, Bool.false_and, Bool.and_false, false_and, and_false, Bool.false_eq_true, Bool.true_eq_false, reduceCtorEq, eq_self, if_true, if_false, true_and, and_true, not_true_eq_false, not_false_eq_true, if_pos, if_neg, z_ite_not, false_or, or_false, true_or, or_true, SWs, swk_0, swk_1, e7, lf]
        exact ih
    rw [← kR_0, eg0] at lp
    cases gd with
    | true =>
      rw [show bI true = nI 1 from rfl] at *
      simp (disch := first | omega | assumption | exact rfl) only [U_231_18, U_231_19, U_231_20, U_231_22, XX, QQ, WW, KK, QX, SHs, RRs, Nat.reduceAdd, Nat.reduceMul, Nat.reduceLeDiff, Nat.reduceEqDiff, List.length_cons, List.length_nil, decide_true, decide_false, Bool.true_and, Bool.and_true, Bool.false_and, Bool.and_false, false_and, and_false, Bool.false_eq_true, Bool.true_eq_false, reduceCtorEq, eq_self, if_true, if_false, true_and, and_true, not_true_eq_false, not_false_eq_true, if_pos, if_neg, z_ite_not, false_or, or_false, true_or, or_true, SWs, swk_0, swk_1, h4, rk]
      exact lp u7
    | false =>
      rw [show bI false = nI 0 from rfl] at *
      simp (disch := first | omega | assumption | exact rfl) only [U_231_18, U_231_19, U_231_21, U_231_22, XX, QQ, WW, KK, QX, SHs, RRs, Nat.reduceAdd, Nat.reduceMul, Nat.reduceLeDiff, Nat.reduceEqDiff, List.length_cons, List.length_nil, decide_true, decide_false, Bool.true_and, Bool.and_true, Bool.false_and, Bool.and_false, false_and, and_false, Bool.false_eq_true, Bool.true_eq_false, reduceCtorEq, eq_self, if_true, if_false, true_and, and_true, not_true_eq_false, not_false_eq_true, if_pos, if_neg, z_ite_not, false_or, or_false, true_or, or_true, SWs, swk_0, swk_1, h4, rk]
      exact lp u7
