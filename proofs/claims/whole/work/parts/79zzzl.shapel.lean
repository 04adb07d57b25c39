/-! ===== a line of a shape ===== -/
def RHq (I I' : Nat → Nat → Int32) : Prop := (∀ a, a ≠ 177 → a ≠ 180 → a ≠ 181 → a ≠ 185 → I' a = I a) ∧ ∀ k, k < 11 ∨ k = 12 ∨ k = 17 ∨ k = 19 ∨ 20 < k → I' 177 k = I 177 k
def RHk (I I' : Nat → Nat → Int32) (kk p : Nat) : Prop := (∀ a, a ≠ 177 → a ≠ 180 → a ≠ 181 → a ≠ 185 → I' a = I a) ∧ (∀ k, k < 11 ∨ k = 12 ∨ k = 19 ∨ 20 < k → I' 177 k = I 177 k) ∧ I' 177 17 = nI kk ∧ I' 177 18 = nI p
theorem RHq_r {I I' : Nat → Nat → Int32} (h : RFr I I') : RHq I I' := ⟨fun a x _ z _ => h.1 a x z, fun k hk => h.2 k (by omega) (by omega) (by omega) (by omega) (by omega) (by omega) (by omega)⟩
theorem RHk_l {I I' : Nat → Nat → Int32} {kk p : Nat} (h : RFl I I' kk p) : RHk I I' kk p := ⟨fun a x _ z _ => h.1 a x z, fun k hk => h.2.1 k (by omega) (by omega) (by omega) (by omega) (by omega) (by omega) (by omega) (by omega), h.2.2⟩
theorem RHq_t {I I' I'' : Nat → Nat → Int32} (h : RHq I I') (h2 : RHq I' I'') : RHq I I'' := ⟨fun a x y z v => (h2.1 a x y z v).trans (h.1 a x y z v), fun k hk => (h2.2 k hk).trans (h.2 k hk)⟩
theorem RHk_t {I I' I'' : Nat → Nat → Int32} {kk p : Nat} (h : RHq I I') (h2 : RHk I' I'' kk p) : RHk I I'' kk p := ⟨fun a x y z v => (h2.1 a x y z v).trans (h.1 a x y z v), fun k hk => (h2.2.1 k hk).trans (h.2 k (by omega)), h2.2.2⟩
theorem RHq_g {I I' : Nat → Nat → Int32} (h : ∀ a, a ≠ 185 → I' a = I a) : RHq I I' := ⟨fun a _ _ _ x => h a x, fun k _ => by rw [h 177 (by decide)]⟩
theorem RQs_fr {I I' : Nat → Nat → Int32} {tp : Nat → Nat} {tl m : Nat} (h : ∀ a, a ≠ 185 → I' a = I a) (s : RQs I tp tl m) : RQs I' tp tl m := by
  obtain ⟨h1, ⟨w, w2, w3⟩, h3, h4⟩ := s
  have e := h 177 (by decide)
  refine ⟨⟨h1.1, ?_, fun i hi => ?_⟩, ⟨w, w2, ?_⟩, ?_, h4⟩
  · rw [e]; exact h1.2.1
  · rw [h 182 (by decide)]; exact h1.2.2 i hi
  · rw [e]; exact w3
  · unfold RCur; rw [e]; exact h3
theorem GR_fr {I I' : Nat → Nat → Int32} {F : Nat} (h : RFr I I') (g : GR I F) : GR I' F := fun q hq => by rw [h.1 185 (by decide) (by decide)]; exact g q hq
theorem fitp {w x y n : Nat} (hw : w < 4) (hx : x < 8) (hy : y < 8) (h0 : w = 0 ∨ w = 3 → n = 1) (h1 : w = 1 → x + n ≤ 8) (h2 : w = 2 → y + n ≤ 8) : ∀ i, i < n → 8 * y + x + i * stpF (w + 256) < 64 := by
  intro i hi
  unfold stpF
  by_cases w1 : w = 1
  · have := h1 w1; rw [if_pos (by omega)]; omega
  · rw [if_neg (by omega)]
    by_cases w2 : w = 2
    · have := h2 w2; omega
    · have := h0 (by omega); omega
section SHL
variable {X : Nat × (Nat → Int32)} {tp : Nat → Nat} {tl m L F : Nat}
def CSf (X : Nat × (Nat → Int32)) (tp : Nat → Nat) (tl m L F kk p : Nat) : Prop := ∀ (d : Nat) (I : Nat → Nat → Int32) (J : Nat → Nat → Int64), 4 ≤ d → CQs I tp tl m → J 124 3 = lN F → ∃ I' J', callF X d 55 [.ref 124, .int (nI L)] (mk I J) = some (some (.int (nI 0)), mk I' J') ∧ CFl I I' kk p ∧ ∀ a, a ≠ 124 → J' a = J a
def CSt (X : Nat × (Nat → Int32)) (tp : Nat → Nat) (tl m L F m' F' : Nat) : Prop := ∀ (d : Nat) (I : Nat → Nat → Int32) (J : Nat → Nat → Int64), 4 ≤ d → CQs I tp tl m → J 124 3 = lN F → ∃ I' J', callF X d 55 [.ref 124, .int (nI L)] (mk I J) = some (some (.int (nI 1)), mk I' J') ∧ CFr I I' ∧ (∀ a, a ≠ 124 → J' a = J a) ∧ J' 124 3 = lN F' ∧ CQs I' tp tl m'
def RSf (X : Nat × (Nat → Int32)) (tp : Nat → Nat) (tl m L F kk p : Nat) : Prop := ∀ (d : Nat) (I : Nat → Nat → Int32) (J : Nat → Nat → Int64), 16 ≤ d → RQs I tp tl m → GR I F → I 177 10 = nI L → ∃ I', callF X d 182 [.ref 177] (mk I J) = some (some (.int (nI 0)), mk I' J) ∧ RHk I I' kk p
def RSt (X : Nat × (Nat → Int32)) (tp : Nat → Nat) (tl m L F m' F' : Nat) : Prop := ∀ (d : Nat) (I : Nat → Nat → Int32) (J : Nat → Nat → Int64), 16 ≤ d → RQs I tp tl m → GR I F → I 177 10 = nI L → ∃ I', callF X d 182 [.ref 177] (mk I J) = some (some (.int (nI 1)), mk I' J) ∧ RHq I I' ∧ RQs I' tp tl m' ∧ GR I' F'
theorem shl_F (hL : L ≤ 32) (kn : ¬ (256 ≤ psK tp tl m ∧ psK tp tl m < 260)) : CSf X tp tl m L F 1 (tpo tp tl m) ∧ RSf X tp tl m L F 1 (tpo tp tl m) := by
  have kb := psK_b (tp := tp) (tl := tl) (m := m)
  refine ⟨fun d I J hd h hJ => ?_, fun d I J hd h hG h10 => ?_⟩
  · obtain ⟨d, rfl⟩ : ∃ d', d = d' + 1 := ⟨d - 1, by omega⟩
    obtain ⟨k5, k6, k7⟩ := CQs_k h
    obtain ⟨I2, e2, f2⟩ := c_fl (X := X) (d := d) (I := I) (J := J) (k := 1) (p := tpo tp tl m) (by omega)
    refine ⟨I2, J, ?_, f2, fun _ _ => rfl⟩
    refine callF_of (by decide) (Nat.le_of_ble_eq_true rfl) ?_
    show Ev X d 55 0 [.ref 124, .int (nI L), .retAddr 0, .retAddr 0, .retAddr 0, .retAddr 0, .retAddr 0] [] ( mk I J) _
    by_cases z : psK tp tl m < 256
    · simp (disch := first | omega | assumption | exact rfl) only [U_55_0, U_55_2, XX, QQ, WW, KK, QX, SHs, RRs, Nat.reduceAdd, Nat.reduceMul, Nat.reduceLeDiff, Nat.reduceEqDiff, List.length_cons, List.length_nil, decide_true, decide_false, Bool.true_and, Bool.and_true, Bool.false_and, Bool.and_false, false_and, and_false, Bool.false_eq_true, Bool.true_eq_false, reduceCtorEq, eq_self, if_true, if_false, true_and, and_true, not_true_eq_false, not_false_eq_true, if_pos, if_neg, z_ite_not, false_or, or_false, true_or, or_true, SWs, swk_0, swk_1, k5, k6, z, e2]
    · have z1 : ¬ psK tp tl m ≤ 259 := by omega
      simp (disch := first | omega | assumption | exact rfl) only [U_55_0, U_55_1, U_55_2, XX, QQ, WW, KK, QX, SHs, RRs, Nat.reduceAdd, Nat.reduceMul, Nat.reduceLeDiff, Nat.reduceEqDiff, List.length_cons, List.length_nil, decide_true, decide_false, Bool.true_and, Bool.and_true, Bool.false_and, Bool.and_false, false_and, and_false, Bool.false_eq_true, Bool.true_eq_false, reduceCtorEq, eq_self, if_true, if_false, true_and, and_true, not_true_eq_false, not_false_eq_true, if_pos, if_neg, z_ite_not, false_or, or_false, true_or, or_true, SWs, swk_0, swk_1, k5, k6, z, z1, e2]
  · obtain ⟨d, rfl⟩ : ∃ d', d = d' + 1 := ⟨d - 1, by omega⟩
    obtain ⟨k5, k6, k7⟩ := RQs_k h
    obtain ⟨I2, e2, f2⟩ := r_bad (X := X) (d := d) (I := I) (J := J) (k := 1) (p := tpo tp tl m) (by omega) k6
    refine ⟨I2, ?_, RHk_l f2⟩
    have g := rs_1 _ kb
    have g6 := g.2.2.2.2.2
    refine callF_of (by decide) (Nat.le_of_ble_eq_true rfl) ?_
    show Ev X d 182 0 [.ref 177, .retAddr 0, .retAddr 0, .retAddr 0, .retAddr 0, .retAddr 0, .retAddr 0] [] ( mk I J) _
    by_cases z3 : 20 ≤ rtk true (psK tp tl m)
    · have z4 : ¬ rtk true (psK tp tl m) ≤ 23 := fun z => kn (g.2.2.2.1.mp ⟨z3, z⟩)
      simp (disch := first | omega | assumption | exact rfl) only [U_182_0, U_182_1, XX, QQ, WW, KK, QX, SHs, RRs, Nat.reduceAdd, Nat.reduceMul, Nat.reduceLeDiff, Nat.reduceEqDiff, List.length_cons, List.length_nil, decide_true, decide_false, Bool.true_and, Bool.and_true, Bool.false_and, Bool.and_false, false_and, and_false, Bool.false_eq_true, Bool.true_eq_false, reduceCtorEq, eq_self, if_true, if_false, true_and, and_true, not_true_eq_false, not_false_eq_true, if_pos, if_neg, z_ite_not, false_or, or_false, true_or, or_true, SWs, swk_0, swk_1, r_isIn, k5, z3, z4, e2]
    · simp (disch := first | omega | assumption | exact rfl) only [U_182_0, U_182_1, XX, QQ, WW, KK, QX, SHs, RRs, Nat.reduceAdd, Nat.reduceMul, Nat.reduceLeDiff, Nat.reduceEqDiff, List.length_cons, List.length_nil, decide_true, decide_false, Bool.true_and, Bool.and_true, Bool.false_and, Bool.and_false, false_and, and_false, Bool.false_eq_true, Bool.true_eq_false, reduceCtorEq, eq_self, if_true, if_false, true_and, and_true, not_true_eq_false, not_false_eq_true, if_pos, if_neg, z_ite_not, false_or, or_false, true_or, or_true, SWs, swk_0, swk_1, r_isIn, k5, z3, e2]
theorem rq_w {w : Nat} (hw : w < 4) (ew : psK tp tl m = w + 256) : rtk true (psK tp tl m) = w + 20 := by
  rw [(rs_1 _ psK_b).2.2.2.2.1 (by omega) (by omega)]; omega
theorem shl_M {w : Nat} (hw : w < 4) (ew : psK tp tl m = w + 256) : CSf X tp tl m 32 F 3 (tpo tp tl m) ∧ RSf X tp tl m 32 F 3 (tpo tp tl m) := by
  refine ⟨fun d I J hd h hJ => ?_, fun d I J hd h hG h10 => ?_⟩
  · obtain ⟨d, rfl⟩ : ∃ d', d = d' + 1 := ⟨d - 1, by omega⟩
    obtain ⟨k5, k6, k7⟩ := CQs_k h
    rw [ew] at k5
    obtain ⟨I2, e2, f2⟩ := c_fl (X := X) (d := d) (I := I) (J := J) (k := 3) (p := tpo tp tl m) (by omega)
    refine ⟨I2, J, ?_, f2, fun _ _ => rfl⟩
    have z : ¬ w + 256 < 256 := by omega
    have z1 : w + 256 ≤ 259 := by omega
    refine callF_of (by decide) (Nat.le_of_ble_eq_true rfl) ?_
    show Ev X d 55 0 [.ref 124, .int (nI 32), .retAddr 0, .retAddr 0, .retAddr 0, .retAddr 0, .retAddr 0] [] ( mk I J) _
    simp (disch := first | omega | assumption | exact rfl) only [U_55_0, U_55_1, U_55_3, U_55_4, XX, QQ, WW, KK, QX, SHs, RRs, Nat.reduceAdd, Nat.reduceMul, Nat.reduceLeDiff, Nat.reduceEqDiff, List.length_cons, List.length_nil, decide_true, decide_false, Bool.true_and, Bool.and_true, Bool.false_and, Bool.and_false, false_and, and_false, Bool.false_eq_true, Bool.true_eq_false, reduceCtorEq, eq_self, if_true, if_false, true_and, and_true, not_true_eq_false, not_false_eq_true, if_pos, if_neg, z_ite_not, false_or, or_false, true_or, or_true, SWs, swk_0, swk_1, k5, k6, z, z1, e2]
  · obtain ⟨d, rfl⟩ : ∃ d', d = d' + 1 := ⟨d - 1, by omega⟩
    obtain ⟨k5, k6, k7⟩ := RQs_k h
    rw [rq_w hw ew] at k5
    obtain ⟨I2, e2, f2⟩ := r_bad (X := X) (d := d) (I := I) (J := J) (k := 3) (p := tpo tp tl m) (by omega) k6
    refine ⟨I2, ?_, RHk_l f2⟩
    have z1 : 20 ≤ w + 20 := by omega
    have z2 : w + 20 ≤ 23 := by omega
    refine callF_of (by decide) (Nat.le_of_ble_eq_true rfl) ?_
    show Ev X d 182 0 [.ref 177, .retAddr 0, .retAddr 0, .retAddr 0, .retAddr 0, .retAddr 0, .retAddr 0] [] ( mk I J) _
    simp (disch := first | omega | assumption | exact rfl) only [U_182_0, U_182_2, U_182_3, XX, QQ, WW, KK, QX, SHs, RRs, Nat.reduceAdd, Nat.reduceMul, Nat.reduceLeDiff, Nat.reduceEqDiff, List.length_cons, List.length_nil, decide_true, decide_false, Bool.true_and, Bool.and_true, Bool.false_and, Bool.and_false, false_and, and_false, Bool.false_eq_true, Bool.true_eq_false, reduceCtorEq, eq_self, if_true, if_false, true_and, and_true, not_true_eq_false, not_false_eq_true, if_pos, if_neg, z_ite_not, false_or, or_false, true_or, or_true, SWs, swk_0, swk_1, r_isIn, k5, h10, z1, z2, e2]
theorem shl_X {w kk : Nat} (hw : w < 4) (hL : L < 32) (ew : psK tp tl m = w + 256) (c : CnF X tp tl (m + 1) 0 7 kk) (r : RnF X tp tl (m + 1) 0 7 kk) : CSf X tp tl m L F kk (tpo tp tl (m + 1)) ∧ RSf X tp tl m L F kk (tpo tp tl (m + 1)) := by
  have zL : ¬ L = 32 := by omega
  refine ⟨fun d I J hd h hJ => ?_, fun d I J hd h hG h10 => ?_⟩
  · obtain ⟨d, rfl⟩ : ∃ d', d = d' + 1 := ⟨d - 1, by omega⟩
    obtain ⟨k5, k6, k7⟩ := CQs_k h
    rw [ew] at k5
    obtain ⟨I1, e1, f1, s1⟩ := cs_nx (X := X) (d := d) (J := J) (by omega) h (psK_lt h.2.2.2.2 (by omega))
    obtain ⟨I2, e2, f2⟩ := c d I1 J (by omega) s1
    refine ⟨I2, J, ?_, CFl_after f1 f2, fun _ _ => rfl⟩
    have z : ¬ w + 256 < 256 := by omega
    have z1 : w + 256 ≤ 259 := by omega
    refine callF_of (by decide) (Nat.le_of_ble_eq_true rfl) ?_
    show Ev X d 55 0 [.ref 124, .int (nI L), .retAddr 0, .retAddr 0, .retAddr 0, .retAddr 0, .retAddr 0] [] ( mk I J) _
    simp (disch := first | omega | assumption | exact rfl) only [U_55_0, U_55_1, U_55_3, U_55_5, U_55_6, U_55_8, U_55_9, U_55_11, U_55_12, XX, QQ, WW, KK, QX, SHs, RRs, Nat.reduceAdd, Nat.reduceMul, Nat.reduceLeDiff, Nat.reduceEqDiff, List.length_cons, List.length_nil, decide_true, decide_false, Bool.true_and, Bool.and_true, Bool.false_and, Bool.and_false, false_and, and_false, Bool.false_eq_true, Bool.true_eq_false, reduceCtorEq, eq_self, if_true, if_false, true_and, and_true, not_true_eq_false, not_false_eq_true, if_pos, if_neg, z_ite_not, false_or, or_false, true_or, or_true, SWs, swk_0, swk_1, k5, k6, z, z1, zL, e1, e2]
  · obtain ⟨d, rfl⟩ : ∃ d', d = d' + 1 := ⟨d - 1, by omega⟩
    obtain ⟨k5, k6, k7⟩ := RQs_k h
    rw [rq_w hw ew] at k5
    obtain ⟨I1, e1, f1, s1⟩ := rs_nx (X := X) (d := d) (J := J) (by omega) h (psK_lt h.2.2.2 (by omega))
    obtain ⟨I2, e2, f2⟩ := r d I1 J (by omega) s1
    refine ⟨I2, ?_, RHk_t (RHq_r f1) (RHk_l f2)⟩
    have z1 : 20 ≤ w + 20 := by omega
    have z2 : w + 20 ≤ 23 := by omega
    refine callF_of (by decide) (Nat.le_of_ble_eq_true rfl) ?_
    show Ev X d 182 0 [.ref 177, .retAddr 0, .retAddr 0, .retAddr 0, .retAddr 0, .retAddr 0, .retAddr 0] [] ( mk I J) _
    simp (disch := first | omega | assumption | exact rfl) only [U_182_0, U_182_2, U_182_4, U_182_5, XX, QQ, WW, KK, QX, SHs, RRs, Nat.reduceAdd, Nat.reduceMul, Nat.reduceLeDiff, Nat.reduceEqDiff, List.length_cons, List.length_nil, decide_true, decide_false, Bool.true_and, Bool.and_true, Bool.false_and, Bool.and_false, false_and, and_false, Bool.false_eq_true, Bool.true_eq_false, reduceCtorEq, eq_self, if_true, if_false, true_and, and_true, not_true_eq_false, not_false_eq_true, if_pos, if_neg, z_ite_not, false_or, or_false, true_or, or_true, SWs, swk_0, swk_1, r_isIn, k5, k6, h10, z1, z2, zL, Nat.add_sub_cancel, e1, e2]
theorem shl_Y {w kk : Nat} (hw : w < 4) (hL : L < 32) (ew : psK tp tl m = w + 256) (k2 : psK tp tl (m + 1) = 2) (x7 : psV tp tl (m + 1) ≤ 7) (c : CnF X tp tl (m + 2) 0 7 kk) (r : RnF X tp tl (m + 2) 0 7 kk) : CSf X tp tl m L F kk (tpo tp tl (m + 2)) ∧ RSf X tp tl m L F kk (tpo tp tl (m + 2)) := by
  have zL : ¬ L = 32 := by omega
  refine ⟨fun d I J hd h hJ => ?_, fun d I J hd h hG h10 => ?_⟩
  · obtain ⟨d, rfl⟩ : ∃ d', d = d' + 1 := ⟨d - 1, by omega⟩
    obtain ⟨k5, k6, k7⟩ := CQs_k h
    rw [ew] at k5
    obtain ⟨I1, e1, f1, s1⟩ := cs_nx (X := X) (d := d) (J := J) (by omega) h (psK_lt h.2.2.2.2 (by omega))
    obtain ⟨I2, e2, f2, s2⟩ := cs_numY (X := X) (d := d) (J := J) (a := 0) (b := 7) (by omega) s1 k2 (by omega) x7 (by decide)
    obtain ⟨I3, e3, f3⟩ := c d I2 J (by omega) s2
    refine ⟨I3, J, ?_, CFl_after f1 (CFl_after f2 f3), fun _ _ => rfl⟩
    have z : ¬ w + 256 < 256 := by omega
    have z1 : w + 256 ≤ 259 := by omega
    have zx : ¬ nI (psV tp tl (m + 1)) = -1 := nI_ne (by omega)
    refine callF_of (by decide) (Nat.le_of_ble_eq_true rfl) ?_
    show Ev X d 55 0 [.ref 124, .int (nI L), .retAddr 0, .retAddr 0, .retAddr 0, .retAddr 0, .retAddr 0] [] ( mk I J) _
    simp (disch := first | omega | assumption | exact rfl) only [U_55_0, U_55_1, U_55_3, U_55_5, U_55_7, U_55_8, U_55_9, U_55_11, U_55_12, XX, QQ, WW, KK, QX, SHs, RRs, Nat.reduceAdd, Nat.reduceMul, Nat.reduceLeDiff, Nat.reduceEqDiff, List.length_cons, List.length_nil, decide_true, decide_false, Bool.true_and, Bool.and_true, Bool.false_and, Bool.and_false, false_and, and_false, Bool.false_eq_true, Bool.true_eq_false, reduceCtorEq, eq_self, if_true, if_false, true_and, and_true, not_true_eq_false, not_false_eq_true, if_pos, if_neg, z_ite_not, false_or, or_false, true_or, or_true, SWs, swk_0, swk_1, k5, k6, z, z1, zL, e1, e2, zx, e3]
  · obtain ⟨d, rfl⟩ : ∃ d', d = d' + 1 := ⟨d - 1, by omega⟩
    obtain ⟨k5, k6, k7⟩ := RQs_k h
    rw [rq_w hw ew] at k5
    obtain ⟨I1, e1, f1, s1⟩ := rs_nx (X := X) (d := d) (J := J) (by omega) h (psK_lt h.2.2.2 (by omega))
    obtain ⟨I2, e2, f2, s2⟩ := rs_numY (X := X) (d := d) (J := J) (a := 0) (b := 7) (by omega) s1 k2 (by omega) x7 (by decide)
    obtain ⟨I3, e3, f3⟩ := r d I2 J (by omega) s2
    refine ⟨I3, ?_, RHk_t (RHq_r f1) (RHk_t (RHq_r f2) (RHk_l f3))⟩
    have z1 : 20 ≤ w + 20 := by omega
    have z2 : w + 20 ≤ 23 := by omega
    refine callF_of (by decide) (Nat.le_of_ble_eq_true rfl) ?_
    show Ev X d 182 0 [.ref 177, .retAddr 0, .retAddr 0, .retAddr 0, .retAddr 0, .retAddr 0, .retAddr 0] [] ( mk I J) _
    simp (disch := first | omega | assumption | exact rfl) only [U_182_0, U_182_2, U_182_4, U_182_6, U_182_7, XX, QQ, WW, KK, QX, SHs, RRs, Nat.reduceAdd, Nat.reduceMul, Nat.reduceLeDiff, Nat.reduceEqDiff, List.length_cons, List.length_nil, decide_true, decide_false, Bool.true_and, Bool.and_true, Bool.false_and, Bool.and_false, false_and, and_false, Bool.false_eq_true, Bool.true_eq_false, reduceCtorEq, eq_self, if_true, if_false, true_and, and_true, not_true_eq_false, not_false_eq_true, if_pos, if_neg, z_ite_not, false_or, or_false, true_or, or_true, SWs, swk_0, swk_1, r_isIn, k5, k6, h10, z1, z2, zL, Nat.add_sub_cancel, e1, e2, e3]
end SHL
