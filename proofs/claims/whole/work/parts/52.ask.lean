/-! ===== the first questions: at, beside, good, judge, look ===== -/
theorem sw0 : swt 0 = [(1, 1), (2, 2), (3, 3)] := rfl
theorem sw1 : swt 1 = [(42, 3), (43, 1), (45, 2), (47, 4), (60, 8), (61, 12), (62, 16), (269, 20)] := rfl
theorem sw2 : swt 2 = [(0, 4), (1, 5), (2, 6), (3, 7)] := rfl
theorem sw3 : swt 3 = [(0, 5), (1, 6), (2, 7)] := rfl
theorem sw4 : swt 4 = [(0, 3), (1, 4), (2, 5), (3, 6)] := rfl
theorem sw5 : swt 5 = [(0, 1), (1, 2), (2, 3), (3, 4), (4, 5), (5, 6)] := rfl
theorem sw6 : swt 6 = [(0, 5), (1, 6), (2, 7)] := rfl
theorem sw7 : swt 7 = [(6, 1), (7, 2), (8, 3), (9, 17), (10, 4), (11, 8), (12, 12), (13, 17), (14, 16)] := rfl
theorem sw8 : swt 8 = [(0, 1), (1, 2), (2, 3), (3, 4), (4, 5), (5, 6)] := rfl
theorem sw9 : swt 9 = [(0, 3), (1, 5), (2, 7), (3, 9), (4, 11), (5, 13), (6, 15), (7, 17), (8, 19), (9, 21), (10, 23), (11, 25), (12, 27), (13, 29), (14, 31), (15, 33), (16, 35), (17, 37), (18, 39), (19, 41), (20, 43), (21, 45), (22, 47), (23, 49), (24, 51), (25, 53), (26, 55), (27, 57), (28, 65)] := rfl
def SWs := And.intro sw0 ( And.intro sw1 ( And.intro sw2 ( And.intro sw3 ( And.intro sw4 ( And.intro sw5 ( And.intro sw6 ( And.intro sw7 (And.intro sw8 sw9))))))))
theorem of_d (v : Int32) (c' c : Nat) (hc : c = c' + 1) (h2 : c < 2 ^ 31) : (∃ j, j < c ∧ v = nI j) ∨ ((decide (0 ≤ v) && decide (v < nI c)) = false ∧ (decide (nI 0 ≤ v) && decide (v ≤ nI c')) = false) := by
  rcases of_c v c h2 with h | ⟨a1, a2⟩ | ⟨a1, a2, a3, a4⟩
  · exact .inl h
  · have a3 : ¬ nI 0 ≤ v := a2
    exact .inr ⟨by simp [a2], by simp [a3]⟩
  · refine .inr ⟨by simp [a4], ?_⟩
    have : ¬ v ≤ nI c' := fun z => by
      have := fa_trans (nI_lt (show c' < c by omega) h2) a3
      exact (fa_of_lt this).2.1 z
    simp [this]
theorem of_e (v : Int32) (n : Nat) (hn : n < 2 ^ 31) : (∃ j, j < n ∧ v = nI j) ∨ ((decide (0 ≤ v) && decide (v < nI n)) = false ∧ (decide (nI 0 ≤ v) && decide (v ≤ nI n - nI 1)) = false) := by
  rcases Nat.eq_zero_or_pos n with h | h
  · subst h
    refine .inr ⟨?_, ?_⟩
    · by_cases z : v < nI 0
      · have : ¬ 0 ≤ v := (fa_of_lt z).2.1
        simp [this]
      · simp [z]
    · have e : nI 0 - nI 1 = (-1 : Int32) := by decide +kernel
      rw [e]
      by_cases z : nI 0 ≤ v
      · have : ¬ v ≤ -1 := fun y => by
          rw [fa_le] at y z
          have e1 : (nI 0).toInt = 0 := by decide +kernel
          have e2 : (-1 : Int32).toInt = -1 := by decide +kernel
          omega
        simp [this]
      · simp [z]
  · rcases of_d v (n - 1) n (by omega) hn with q | q
    · exact .inl q
    · rw [q_sub (by omega)]; exact .inr q
theorem R5 {a : Nat} (ha : a < 6) : RR 5 a = some (14 + 4 * a) := (by decide +kernel : ∀ a, a < 6 → RR 5 a = some (14 + 4 * a)) a ha
theorem W_0 {a : Nat} (ha : a < 6) : SH (14 + 4 * a) = (9, 5) := (WA_0 (I := fun _ _ => 0) (J := fun _ _ => 0) ha).1
theorem W_1 {a : Nat} (ha : a < 6) : SH (14 + 4 * a + 1) = (20, 24) := (WA_0 (I := fun _ _ => 0) (J := fun _ _ => 0) ha).2.2.2.2.1
theorem W_2 {a : Nat} (ha : a < 6) : SH (14 + 4 * a + 2) = (20, 24) := (WA_0 (I := fun _ _ => 0) (J := fun _ _ => 0) ha).2.2.2.2.2.1
theorem W_3 {a : Nat} (ha : a < 6) : SH (14 + 4 * a + 3) = (20, 96) := (WA_0 (I := fun _ _ => 0) (J := fun _ _ => 0) ha).2.2.2.2.2.2
theorem W_4 {a : Nat} (ha : a < 6) : RR (14 + 4 * a) 2 = some (14 + 4 * a + 1) := (WA_0 (I := fun _ _ => 0) (J := fun _ _ => 0) ha).2.1
theorem W_5 {a : Nat} (ha : a < 6) : RR (14 + 4 * a) 3 = some (14 + 4 * a + 2) := (WA_0 (I := fun _ _ => 0) (J := fun _ _ => 0) ha).2.2.1
theorem W_6 {a : Nat} (ha : a < 6) : RR (14 + 4 * a) 4 = some (14 + 4 * a + 3) := (WA_0 (I := fun _ _ => 0) (J := fun _ _ => 0) ha).2.2.2.1
def WLs := And.intro @R5 (And.intro @W_0 (And.intro @W_1 (And.intro @W_2 (And.intro @W_3 (And.intro @W_4 (And.intro @W_5 @W_6))))))
section IV
variable {I : Nat → Nat → Int32} {J : Nat → Nat → Int64}
theorem Inv_wl (h : Inv I J) : ∃ FW : Nat → Nat, ∀ a, a < 6 → WG (mk I J) (14 + 4 * a) (FW a) ∧ WB (I (14 + 4 * a + 1)) (pop (FW a)) ∧ RWl (I 178) a (FW a) (I (14 + 4 * a + 1)) := h.1.2.2.2.1
theorem Inv_sc (h : Inv I J) : I 1 0 = I 178 0 ∧ ∃ al be yr, al < 2 ∧ be ≤ 24 ∧ yr ≤ 999 ∧ I 1 1 = nI al ∧ I 178 1 = nI al ∧ I 1 2 = nI be ∧ I 178 2 = nI be ∧ I 1 3 = nI yr ∧ I 178 3 = nI yr := h.1.1
theorem Inv_mk (h : Inv I J) : ∃ mks brk : Nat → Nat, ∀ k, k < 24 → mks k < 4 ∧ brk k < 2 ∧ I 2 k = nI (mks k) ∧ I 178 (10 + k) = nI (mks k) ∧ I 3 k = nI (brk k) ∧ I 178 (40 + k) = nI (brk k) := h.1.2.1
theorem Inv_sh (h : Inv I J) : ∃ FS : Nat → Nat, ∀ s, s < 6 → FS s < 2 ^ 64 ∧ J 4 s = lN (FS s) ∧ RSh (I 178) s (FS s) := h.1.2.2.1
end IV
theorem r_isCellOf {X : Nat × (Nat → Int32)} {d : Nat} {I : Nat → Nat → Int32} {J : Nat → Nat → Int64} {a F : Nat} {B : Nat → Int32} {v : Int32} (hd : 3 ≤ d) (ha : a < 6) (hR : RWl (I 178) a F B) : callF X d 192 [.ref 177, .int (nI a), .int v] (mk I J) = some (some (.int (bI (decide (nI 0 ≤ v) && decide (v ≤ nI (pop F) - nI 1)))), mk I J) := by
  obtain ⟨h24, h1, h2, h3⟩ := hR
  refine callF_at (by omega) (by decide) (Nat.le_of_ble_eq_true rfl) (fun d _ => ?_)
  show Ev X d 192 0 [.ref 177, .int (nI a), .int v] [] ( mk I J) _
  cases hb : (decide (nI 0 ≤ v) && decide (v ≤ nI (pop F) - nI 1)) with
  | true => simp (disch := first | omega | assumption | exact rfl) only [U_192_0, U_192_1, U_192_2, U_192_3, U_192_4, XX, q_0le, q_le, q_eq0, q_bI0, q_add, q_inb, q_cl, q_dt, KK, SHs, RRs, r_isWall, r_isIn, h1, hb, q_0, Bool.and_true, Bool.true_and, Bool.true_eq_false, if_false, if_true, true_and, and_true, eq_self, List.length_nil, List.length_cons, Nat.reduceAdd, Nat.reduceLeDiff, if_pos, if_neg, q_b1, q_bI0']; rfl
  | false => simp (disch := first | omega | assumption | exact rfl) only [U_192_0, U_192_1, U_192_2, U_192_3, U_192_4, XX, q_0le, q_le, q_eq0, q_bI0, q_add, q_inb, q_cl, q_dt, KK, SHs, RRs, r_isWall, r_isIn, h1, hb, q_0, Bool.and_true, Bool.true_and, Bool.true_eq_false, if_false, if_true, true_and, and_true, eq_self, List.length_nil, List.length_cons, Nat.reduceAdd, Nat.reduceLeDiff, if_pos, if_neg, q_b0, q_bI0']; rfl
theorem r_isCellOf_n {X : Nat × (Nat → Int32)} {d : Nat} {I : Nat → Nat → Int32} {J : Nat → Nat → Int64} {v w : Int32} (hd : 3 ≤ d) (ha : (decide (nI 0 ≤ v) && decide (v ≤ nI 5)) = false) : callF X d 192 [.ref 177, .int v, .int w] (mk I J) = some (some (.int (bI false)), mk I J) := by
  refine callF_at (by omega) (by decide) (Nat.le_of_ble_eq_true rfl) (fun d _ => ?_)
  show Ev X d 192 0 [.ref 177, .int v, .int w] [] ( mk I J) _
  simp (disch := first | omega | assumption | exact rfl) only [U_192_0, U_192_3, U_192_4, XX, QQ, WW, KK, QX, SHs, RRs, Nat.reduceAdd, Nat.reduceMul, Nat.reduceLeDiff, Nat.reduceEqDiff, List.length_cons, List.length_nil, decide_true, decide_false, Bool.true_and, Bool.and_true, Bool.false_and, Bool.and_false, false_and, and_false, Bool.false_eq_true, Bool.true_eq_false, reduceCtorEq, eq_self, if_true, if_false, true_and, and_true, not_true_eq_false, not_false_eq_true, if_pos, if_neg, z_ite_not, false_or, or_false, true_or, or_true, SWs, swk_0, swk_1, r_isWall, ha]
theorem b_at {X : Nat × (Nat → Int32)} {d : Nat} {I : Nat → Nat → Int32} {J : Nat → Nat → Int64} {v w : Int32} (hd : 4 ≤ d) (h : Inv I J) : Both X d 124 204 [.int v, .int w] I J := by
  obtain ⟨FW, hw⟩ := Inv_wl h
  rcases of_d v 5 6 rfl (by decide) with ⟨a, ha, rfl⟩ | ⟨o1, o2⟩
  · obtain ⟨hG, hB, hR⟩ := hw a ha
    have h24 := hG.2.2.1
    have hc : I (14 + 4 * a) 1 = nI (pop (FW a)) := hG.2.2.2.2.1
    rcases of_e w (pop (FW a)) (by omega) with ⟨i, hi, rfl⟩ | ⟨p1, p2⟩
    · have e := hR.2.2.2 i (by omega)
      refine Both_0 (I (14 + 4 * a + 1) i) h ?_ ?_
      · refine callF_at (by omega) (by decide) (Nat.le_of_ble_eq_true rfl) (fun d _ => ?_)
        show Ev X d 124 0 [.ref 0, .int (nI a), .int (nI i)] [] ( mk I J) _
        simp (disch := first | omega | assumption | exact rfl) only [U_124_0, U_124_1, U_124_2, U_124_3, XX, QQ, WW, KK, QX, SHs, RRs, Nat.reduceAdd, Nat.reduceMul, Nat.reduceLeDiff, Nat.reduceEqDiff, List.length_cons, List.length_nil, decide_true, decide_false, Bool.true_and, Bool.and_true, Bool.false_and, Bool.and_false, false_and, and_false, Bool.false_eq_true, Bool.true_eq_false, reduceCtorEq, eq_self, if_true, if_false, true_and, and_true, not_true_eq_false, not_false_eq_true, if_pos, if_neg, z_ite_not, false_or, or_false, true_or, or_true, SWs, swk_0, swk_1, s_isOf, WLs, hc]
      · refine callF_at (by omega) (by decide) (Nat.le_of_ble_eq_true rfl) (fun d _ => ?_)
        show Ev X d 204 0 [.ref 177, .int (nI a), .int (nI i)] [] ( mk I J) _
        have c := r_isCellOf (X := X) (d := d) (J := J) (v := nI i) (by omega) ha hR
        simp (disch := first | omega | assumption | exact rfl) only [U_204_0, U_204_1, U_204_2, U_204_3, XX, QQ, WW, KK, QX, SHs, RRs, Nat.reduceAdd, Nat.reduceMul, Nat.reduceLeDiff, Nat.reduceEqDiff, List.length_cons, List.length_nil, decide_true, decide_false, Bool.true_and, Bool.and_true, Bool.false_and, Bool.and_false, false_and, and_false, Bool.false_eq_true, Bool.true_eq_false, reduceCtorEq, eq_self, if_true, if_false, true_and, and_true, not_true_eq_false, not_false_eq_true, if_pos, if_neg, z_ite_not, false_or, or_false, true_or, or_true, SWs, swk_0, swk_1, c, r_brick, e]
    · refine Both_0 (-2) h ?_ ?_
      · refine callF_at (by omega) (by decide) (Nat.le_of_ble_eq_true rfl) (fun d _ => ?_)
        show Ev X d 124 0 [.ref 0, .int (nI a), .int w] [] ( mk I J) _
        simp (disch := first | omega | assumption | exact rfl) only [U_124_0, U_124_1, U_124_2, U_124_3, XX, QQ, WW, KK, QX, SHs, RRs, Nat.reduceAdd, Nat.reduceMul, Nat.reduceLeDiff, Nat.reduceEqDiff, List.length_cons, List.length_nil, decide_true, decide_false, Bool.true_and, Bool.and_true, Bool.false_and, Bool.and_false, false_and, and_false, Bool.false_eq_true, Bool.true_eq_false, reduceCtorEq, eq_self, if_true, if_false, true_and, and_true, not_true_eq_false, not_false_eq_true, if_pos, if_neg, z_ite_not, false_or, or_false, true_or, or_true, SWs, swk_0, swk_1, s_isOf, WLs, hc, p1]
      · refine callF_at (by omega) (by decide) (Nat.le_of_ble_eq_true rfl) (fun d _ => ?_)
        show Ev X d 204 0 [.ref 177, .int (nI a), .int w] [] ( mk I J) _
        have c := r_isCellOf (X := X) (d := d) (J := J) (v := w) (by omega) ha hR
        rw [p2] at c
        simp (disch := first | omega | assumption | exact rfl) only [U_204_0, U_204_1, U_204_2, U_204_3, XX, QQ, WW, KK, QX, SHs, RRs, Nat.reduceAdd, Nat.reduceMul, Nat.reduceLeDiff, Nat.reduceEqDiff, List.length_cons, List.length_nil, decide_true, decide_false, Bool.true_and, Bool.and_true, Bool.false_and, Bool.and_false, false_and, and_false, Bool.false_eq_true, Bool.true_eq_false, reduceCtorEq, eq_self, if_true, if_false, true_and, and_true, not_true_eq_false, not_false_eq_true, if_pos, if_neg, z_ite_not, false_or, or_false, true_or, or_true, SWs, swk_0, swk_1, c]
  · refine Both_0 (-2) h ?_ ?_
    · refine callF_at (by omega) (by decide) (Nat.le_of_ble_eq_true rfl) (fun d _ => ?_)
      show Ev X d 124 0 [.ref 0, .int v, .int w] [] ( mk I J) _
      simp (disch := first | omega | assumption | exact rfl) only [U_124_0, U_124_1, U_124_2, U_124_3, XX, QQ, WW, KK, QX, SHs, RRs, Nat.reduceAdd, Nat.reduceMul, Nat.reduceLeDiff, Nat.reduceEqDiff, List.length_cons, List.length_nil, decide_true, decide_false, Bool.true_and, Bool.and_true, Bool.false_and, Bool.and_false, false_and, and_false, Bool.false_eq_true, Bool.true_eq_false, reduceCtorEq, eq_self, if_true, if_false, true_and, and_true, not_true_eq_false, not_false_eq_true, if_pos, if_neg, z_ite_not, false_or, or_false, true_or, or_true, SWs, swk_0, swk_1, s_isOf, o1]
    · refine callF_at (by omega) (by decide) (Nat.le_of_ble_eq_true rfl) (fun d _ => ?_)
      show Ev X d 204 0 [.ref 177, .int v, .int w] [] ( mk I J) _
      simp (disch := first | omega | assumption | exact rfl) only [U_204_0, U_204_1, U_204_2, U_204_3, XX, QQ, WW, KK, QX, SHs, RRs, Nat.reduceAdd, Nat.reduceMul, Nat.reduceLeDiff, Nat.reduceEqDiff, List.length_cons, List.length_nil, decide_true, decide_false, Bool.true_and, Bool.and_true, Bool.false_and, Bool.and_false, false_and, and_false, Bool.false_eq_true, Bool.true_eq_false, reduceCtorEq, eq_self, if_true, if_false, true_and, and_true, not_true_eq_false, not_false_eq_true, if_pos, if_neg, z_ite_not, false_or, or_false, true_or, or_true, SWs, swk_0, swk_1, r_isCellOf_n, o2]
theorem FR_of {I I' : Nat → Nat → Int32} (h : ∀ a, a < 183 → a ≠ 177 → I' a = I a) (h2 : ∀ k, k < 22 → I' 177 k = I 177 k) : FR I I' := ⟨fun a ha => h a (by omega) (by omega), h _ (by decide) (by decide), h _ (by decide) (by decide), h _ (by decide) (by decide), h2⟩
theorem fstI_no {f : Nat → Int32} {b : Int32} {n : Nat} (h : fstI f b n 0 = -1) (hn : n < 2 ^ 31) : ∀ i, i < n → f i ≠ b := by
  rcases fstI_spec f b n 0 with ⟨_, q⟩ | ⟨j, _, q, _, e, _⟩
  · exact fun i hi => q i (by omega) (by omega)
  · rw [e] at h; exact absurd h (nI_ne (by omega))
theorem b_beside {X : Nat × (Nat → Int32)} {d : Nat} {I : Nat → Nat → Int32} {J : Nat → Nat → Int64} {v w : Int32} (hd : 4 ≤ d) (h : Inv I J) : Both X d 125 213 [.int v, .int w] I J := by
  obtain ⟨FW, hw⟩ := Inv_wl h
  rcases of_d v 5 6 rfl (by decide) with ⟨a, ha, rfl⟩ | ⟨o1, o2⟩
  · obtain ⟨hG, hB, hR⟩ := hw a ha
    have h24 := hG.2.2.1
    rcases of_d w 23 24 rfl (by decide) with ⟨b, hb, rfl⟩ | ⟨p1, p2⟩
    · have c1 := fun d hd => s_cellOf (X := X) (d := d) (b := nI b) hd hG
      have c2 := fun d hd => r_placeOf (X := X) (d := d) (J := J) (b := nI b) hd ha hR
      rw [k_I] at c1
      rcases fstI_spec (I (14 + 4 * a + 1)) (nI b) (pop (FW a)) 0 with ⟨e, _⟩ | ⟨j, _, hj, e1, e, _⟩
      · rw [e] at c1 c2
        refine Both_0 (-1) h ?_ ?_
        · refine callF_at (by omega) (by decide) (Nat.le_of_ble_eq_true rfl) (fun d _ => ?_)
          show Ev X d 125 0 [.ref 0, .int (nI a), .int (nI b), .retAddr 0] [] ( mk I J) _
          have c1 := c1 d (by omega)
          simp (disch := first | omega | assumption | exact rfl) only [U_125_0, U_125_1, U_125_2, U_125_3, U_125_4, U_125_5, U_125_6, XX, QQ, WW, KK, QX, SHs, RRs, Nat.reduceAdd, Nat.reduceMul, Nat.reduceLeDiff, Nat.reduceEqDiff, List.length_cons, List.length_nil, decide_true, decide_false, Bool.true_and, Bool.and_true, Bool.false_and, Bool.and_false, false_and, and_false, Bool.false_eq_true, Bool.true_eq_false, reduceCtorEq, eq_self, if_true, if_false, true_and, and_true, not_true_eq_false, not_false_eq_true, if_pos, if_neg, z_ite_not, false_or, or_false, true_or, or_true, SWs, swk_0, swk_1, s_isOf, WLs, c1]
        · refine callF_at (by omega) (by decide) (Nat.le_of_ble_eq_true rfl) (fun d _ => ?_)
          show Ev X d 213 0 [.ref 177, .int (nI a), .int (nI b)] [] ( mk I J) _
          have c2 := c2 d (by omega)
          simp (disch := first | omega | assumption | exact rfl) only [U_213_0, U_213_1, U_213_2, U_213_3, U_213_4, XX, QQ, WW, KK, QX, SHs, RRs, Nat.reduceAdd, Nat.reduceMul, Nat.reduceLeDiff, Nat.reduceEqDiff, List.length_cons, List.length_nil, decide_true, decide_false, Bool.true_and, Bool.and_true, Bool.false_and, Bool.and_false, false_and, and_false, Bool.false_eq_true, Bool.true_eq_false, reduceCtorEq, eq_self, if_true, if_false, true_and, and_true, not_true_eq_false, not_false_eq_true, if_pos, if_neg, z_ite_not, false_or, or_false, true_or, or_true, SWs, swk_0, swk_1, r_isWall, r_isBrick, c2, q_0]
      · rw [e] at c1 c2
        have hj' : j < pop (FW a) := by omega
        have e2 := nr_at hB hj' hb e1
        refine ⟨nI (nr (FW a) (I (14 + 4 * a + 1)) b), I, J, va_up (va_up I 187 (gN (FW a) (I (14 + 4 * a + 1)) (I 187) (pop (FW a)))) 177 (va_up (I 177) 27 (nI (ins (FW a) (I (14 + 4 * a + 1))))), ?_, ?_, ?_⟩
        · refine callF_at (by omega) (by decide) (Nat.le_of_ble_eq_true rfl) (fun d _ => ?_)
          show Ev X d 125 0 [.ref 0, .int (nI a), .int (nI b), .retAddr 0] [] ( mk I J) _
          have c1 := c1 d (by omega)
          have sb := s_besideOf (X := X) (d := d) (i := j) (by omega) hG hB hj'
          rw [k_I, ← e2] at sb
          simp (disch := first | omega | assumption | exact rfl) only [U_125_0, U_125_1, U_125_2, U_125_3, U_125_4, U_125_5, U_125_6, XX, QQ, WW, KK, QX, SHs, RRs, Nat.reduceAdd, Nat.reduceMul, Nat.reduceLeDiff, Nat.reduceEqDiff, List.length_cons, List.length_nil, decide_true, decide_false, Bool.true_and, Bool.and_true, Bool.false_and, Bool.and_false, false_and, and_false, Bool.false_eq_true, Bool.true_eq_false, reduceCtorEq, eq_self, if_true, if_false, true_and, and_true, not_true_eq_false, not_false_eq_true, if_pos, if_neg, z_ite_not, false_or, or_false, true_or, or_true, SWs, swk_0, swk_1, s_isOf, WLs, c1, sb]
        · refine callF_at (by omega) (by decide) (Nat.le_of_ble_eq_true rfl) (fun d _ => ?_)
          show Ev X d 213 0 [.ref 177, .int (nI a), .int (nI b)] [] ( mk I J) _
          have c2 := c2 d (by omega)
          have l := r_lays (X := X) (d := d) (J := J) (N := 187) (by omega) ha hR hB rfl (by decide)
          have g : gN (FW a) (I (14 + 4 * a + 1)) (I 187) (pop (FW a)) b = nI (nr (FW a) (I (14 + 4 * a + 1)) b) := if_pos hb
          simp (disch := first | omega | assumption | exact rfl) only [U_213_0, U_213_1, U_213_2, U_213_3, U_213_4, XX, QQ, WW, KK, QX, SHs, RRs, Nat.reduceAdd, Nat.reduceMul, Nat.reduceLeDiff, Nat.reduceEqDiff, List.length_cons, List.length_nil, decide_true, decide_false, Bool.true_and, Bool.and_true, Bool.false_and, Bool.and_false, false_and, and_false, Bool.false_eq_true, Bool.true_eq_false, reduceCtorEq, eq_self, if_true, if_false, true_and, and_true, not_true_eq_false, not_false_eq_true, if_pos, if_neg, z_ite_not, false_or, or_false, true_or, or_true, SWs, swk_0, swk_1, r_isWall, r_isBrick, c2, q_0, l, g]
        · exact Inv_FR h (FR_of (fun k h1 h2 => by rw [vu_ne h2, vu_ne (by omega)]) (fun k hk => by rw [vu_eq, vu_ne (by omega)]))
    · refine Both_0 (-1) h ?_ ?_
      · refine callF_at (by omega) (by decide) (Nat.le_of_ble_eq_true rfl) (fun d _ => ?_)
        show Ev X d 125 0 [.ref 0, .int (nI a), .int w, .retAddr 0] [] ( mk I J) _
        simp (disch := first | omega | assumption | exact rfl) only [U_125_0, U_125_1, U_125_2, U_125_3, U_125_4, U_125_5, U_125_6, XX, QQ, WW, KK, QX, SHs, RRs, Nat.reduceAdd, Nat.reduceMul, Nat.reduceLeDiff, Nat.reduceEqDiff, List.length_cons, List.length_nil, decide_true, decide_false, Bool.true_and, Bool.and_true, Bool.false_and, Bool.and_false, false_and, and_false, Bool.false_eq_true, Bool.true_eq_false, reduceCtorEq, eq_self, if_true, if_false, true_and, and_true, not_true_eq_false, not_false_eq_true, if_pos, if_neg, z_ite_not, false_or, or_false, true_or, or_true, SWs, swk_0, swk_1, s_isOf, p1]
      · refine callF_at (by omega) (by decide) (Nat.le_of_ble_eq_true rfl) (fun d _ => ?_)
        show Ev X d 213 0 [.ref 177, .int (nI a), .int w] [] ( mk I J) _
        simp (disch := first | omega | assumption | exact rfl) only [U_213_0, U_213_1, U_213_2, U_213_3, U_213_4, XX, QQ, WW, KK, QX, SHs, RRs, Nat.reduceAdd, Nat.reduceMul, Nat.reduceLeDiff, Nat.reduceEqDiff, List.length_cons, List.length_nil, decide_true, decide_false, Bool.true_and, Bool.and_true, Bool.false_and, Bool.and_false, false_and, and_false, Bool.false_eq_true, Bool.true_eq_false, reduceCtorEq, eq_self, if_true, if_false, true_and, and_true, not_true_eq_false, not_false_eq_true, if_pos, if_neg, z_ite_not, false_or, or_false, true_or, or_true, SWs, swk_0, swk_1, r_isWall, r_isBrick, p2, q_0]
  · refine Both_0 (-1) h ?_ ?_
    · refine callF_at (by omega) (by decide) (Nat.le_of_ble_eq_true rfl) (fun d _ => ?_)
      show Ev X d 125 0 [.ref 0, .int v, .int w, .retAddr 0] [] ( mk I J) _
      simp (disch := first | omega | assumption | exact rfl) only [U_125_0, U_125_1, U_125_2, U_125_3, U_125_4, U_125_5, U_125_6, XX, QQ, WW, KK, QX, SHs, RRs, Nat.reduceAdd, Nat.reduceMul, Nat.reduceLeDiff, Nat.reduceEqDiff, List.length_cons, List.length_nil, decide_true, decide_false, Bool.true_and, Bool.and_true, Bool.false_and, Bool.and_false, false_and, and_false, Bool.false_eq_true, Bool.true_eq_false, reduceCtorEq, eq_self, if_true, if_false, true_and, and_true, not_true_eq_false, not_false_eq_true, if_pos, if_neg, z_ite_not, false_or, or_false, true_or, or_true, SWs, swk_0, swk_1, s_isOf, o1]
    · refine callF_at (by omega) (by decide) (Nat.le_of_ble_eq_true rfl) (fun d _ => ?_)
      show Ev X d 213 0 [.ref 177, .int v, .int w] [] ( mk I J) _
      simp (disch := first | omega | assumption | exact rfl) only [U_213_0, U_213_1, U_213_2, U_213_3, U_213_4, XX, QQ, WW, KK, QX, SHs, RRs, Nat.reduceAdd, Nat.reduceMul, Nat.reduceLeDiff, Nat.reduceEqDiff, List.length_cons, List.length_nil, decide_true, decide_false, Bool.true_and, Bool.and_true, Bool.false_and, Bool.and_false, false_and, and_false, Bool.false_eq_true, Bool.true_eq_false, reduceCtorEq, eq_self, if_true, if_false, true_and, and_true, not_true_eq_false, not_false_eq_true, if_pos, if_neg, z_ite_not, false_or, or_false, true_or, or_true, SWs, swk_0, swk_1, r_isWall, r_isBrick, o2]
