/-! ===== a line of a shape, both sides ===== -/
section SHA
variable {X : Nat × (Nat → Int32)} {tp : Nat → Nat} {tl m L F : Nat}
def CShd (X : Nat × (Nat → Int32)) (tp : Nat → Nat) (tl m L w x y n m1 : Nat) : Prop := ∀ (d : Nat) (I : Nat → Nat → Int32) (J : Nat → Nat → Int64), 3 ≤ d → CQs I tp tl m → ∃ I1, CFr I I1 ∧ CQs I1 tp tl m1 ∧ ∀ r, Ev X d 55 13 [.ref 124, .int (nI L), .int (nI (w + 256)), .int (nI (tpo tp tl m)), .int (nI x), .int (nI y), .int (nI n)] [] (mk I1 J) r → callF X (d + 1) 55 [.ref 124, .int (nI L)] (mk I J) = some r
def RShd (X : Nat × (Nat → Int32)) (tp : Nat → Nat) (tl m L F w x y n m1 : Nat) : Prop := ∀ (d : Nat) (I : Nat → Nat → Int32) (J : Nat → Nat → Int64), 15 ≤ d → RQs I tp tl m → GR I F → I 177 10 = nI L → ∃ I1, RHq I I1 ∧ RQs I1 tp tl m1 ∧ GR I1 (shFm (w + 256) (8 * y + x) F n) ∧ ∀ r, Ev X d 182 27 [.ref 177, .int (nI w), .int (nI (tpo tp tl m)), .int (nI x), .int (nI y), .int (nI n), .int (nI n)] [] (mk I1 J) r → callF X (d + 1) 182 [.ref 177] (mk I J) = some r
theorem csh_ {w n m1 : Nat} (hw : w < 4) (hL : L < 32) (ew : psK tp tl m = w + 256) (k2 : psK tp tl (m + 1) = 2) (x7 : psV tp tl (m + 1) ≤ 7) (k3 : psK tp tl (m + 2) = 2) (y7 : psV tp tl (m + 2) ≤ 7) (n8 : n ≤ 8) (c : CNs X tp tl (m + 3) (w + 256) (psV tp tl (m + 1)) (psV tp tl (m + 2)) m1 n) : CShd X tp tl m L w (psV tp tl (m + 1)) (psV tp tl (m + 2)) n m1 := by
  have zL : ¬ L = 32 := by omega
  intro d I J hd h
  obtain ⟨k5, k6, k7⟩ := CQs_k h
  rw [ew] at k5
  obtain ⟨I1, e1, f1, s1⟩ := cs_nx (X := X) (d := d) (J := J) (by omega) h (psK_lt h.2.2.2.2 (by omega))
  obtain ⟨I2, e2, f2, s2⟩ := cs_numY (X := X) (d := d) (J := J) (a := 0) (b := 7) (by omega) s1 k2 (by omega) x7 (by decide)
  obtain ⟨I3, e3, f3, s3⟩ := cs_numY (X := X) (d := d) (J := J) (a := 0) (b := 7) (by omega) s2 k3 (by omega) y7 (by decide)
  obtain ⟨I4, e4, f4, s4⟩ := c d I3 J hd s3
  refine ⟨I4, CFr_trans f1 (CFr_trans f2 (CFr_trans f3 f4)), s4, fun r Hr => ?_⟩
  have z : ¬ w + 256 < 256 := by omega
  have z1 : w + 256 ≤ 259 := by omega
  have zx : ¬ nI (psV tp tl (m + 1)) = -1 := nI_ne (by omega)
  have zy : ¬ nI (psV tp tl (m + 2)) = -1 := nI_ne (by omega)
  have zn : ¬ nI n = -1 := nI_ne (by omega)
  refine callF_of (by decide) (Nat.le_of_ble_eq_true rfl) ?_
  show Ev X d 55 0 [.ref 124, .int (nI L), .retAddr 0, .retAddr 0, .retAddr 0, .retAddr 0, .retAddr 0] [] ( mk I J) _
  simp (disch := first | omega | assumption | exact rfl) only [U_55_0, U_55_1, U_55_3, U_55_5, U_55_7, U_55_8, U_55_10, U_55_11, XX, QQ, WW, KK, QX, SHs, RRs, Nat.reduceAdd, Nat.reduceMul, Nat.reduceLeDiff, Nat.reduceEqDiff, List.length_cons, List.length_nil, decide_true, decide_false, Bool.true_and, Bool.and_true, Bool.false_and, Bool.and_false, false_and, and_false, Bool.false_eq_true, Bool.true_eq_false, reduceCtorEq, eq_self, if_true, if_false, true_and, and_true, not_true_eq_false, not_false_eq_true, if_pos, if_neg, z_ite_not, false_or, or_false, true_or, or_true, SWs, swk_0, swk_1, k5, k6, z, z1, zL, e1, e2, zx, e3, zy, e4, zn]
  exact Hr
theorem rsh_ {w n m1 : Nat} (hw : w < 4) (hL : L < 32) (ew : psK tp tl m = w + 256) (k2 : psK tp tl (m + 1) = 2) (x7 : psV tp tl (m + 1) ≤ 7) (k3 : psK tp tl (m + 2) = 2) (y7 : psV tp tl (m + 2) ≤ 7) (n8 : n ≤ 8) (h0 : w = 0 ∨ w = 3 → n = 1) (h1 : w = 1 → psV tp tl (m + 1) + n ≤ 8) (h2 : w = 2 → psV tp tl (m + 2) + n ≤ 8) (r : RNs X tp tl (m + 3) w (psV tp tl (m + 1)) (psV tp tl (m + 2)) m1 n) : RShd X tp tl m L F w (psV tp tl (m + 1)) (psV tp tl (m + 2)) n m1 := by
  have zL : ¬ L = 32 := by omega
  intro d I J hd h hG h10
  obtain ⟨k5, k6, k7⟩ := RQs_k h
  rw [rq_w hw ew] at k5
  obtain ⟨I1, e1, f1, s1⟩ := rs_nx (X := X) (d := d) (J := J) (by omega) h (psK_lt h.2.2.2 (by omega))
  have v1 := (RQs_k s1).2.2 k2
  obtain ⟨I2, e2, f2, s2⟩ := rs_numY (X := X) (d := d) (J := J) (a := 0) (b := 7) (by omega) s1 k2 (by omega) x7 (by decide)
  have v2 : I2 177 16 = nI (psV tp tl (m + 2)) := (RQs_k s2).2.2 k3
  obtain ⟨I3, e3, f3, s3⟩ := rs_numY (X := X) (d := d) (J := J) (a := 0) (b := 7) (by omega) s2 k3 (by omega) y7 (by decide)
  obtain ⟨I4, f4, s4, H4⟩ := r d I3 J (nI (tpo tp tl m)) hd s3
  have g4 : GR I4 F := GR_fr f4 (GR_fr f3 (GR_fr f2 (GR_fr f1 hG)))
  obtain ⟨I5, f5, g5, H5⟩ := r_shlp (X := X) (d := d) (I := I4) (J := J) (P := nI (tpo tp tl m)) hw (Nat.lt_succ_of_le x7) (Nat.lt_succ_of_le y7) n8 h0 h1 h2 0 (Nat.zero_le _) I4 g4
  refine ⟨I5, RHq_t (RHq_r f1) (RHq_t (RHq_r f2) (RHq_t (RHq_r f3) (RHq_t (RHq_r f4) (RHq_g f5)))), RQs_fr f5 s4, g5, fun r Hr => ?_⟩
  have H6 := H5 r Hr
  have z1 : 20 ≤ w + 20 := by omega
  have z2 : w + 20 ≤ 23 := by omega
  refine callF_of (by decide) (Nat.le_of_ble_eq_true rfl) ?_
  show Ev X d 182 0 [.ref 177, .retAddr 0, .retAddr 0, .retAddr 0, .retAddr 0, .retAddr 0, .retAddr 0] [] ( mk I J) _
  simp (disch := first | omega | assumption | exact rfl) only [U_182_0, U_182_2, U_182_4, U_182_6, XX, QQ, WW, KK, QX, SHs, RRs, Nat.reduceAdd, Nat.reduceMul, Nat.reduceLeDiff, Nat.reduceEqDiff, List.length_cons, List.length_nil, decide_true, decide_false, Bool.true_and, Bool.and_true, Bool.false_and, Bool.and_false, false_and, and_false, Bool.false_eq_true, Bool.true_eq_false, reduceCtorEq, eq_self, if_true, if_false, true_and, and_true, not_true_eq_false, not_false_eq_true, if_pos, if_neg, z_ite_not, false_or, or_false, true_or, or_true, SWs, swk_0, swk_1, r_isIn, k5, k6, h10, z1, z2, zL, Nat.add_sub_cancel, e1, v1, e2, v2, e3]
  refine H4 r ?_
  simp (disch := first | omega | assumption | exact rfl) only [U_182_15, XX, QQ, WW, KK, QX, SHs, RRs, Nat.reduceAdd, Nat.reduceMul, Nat.reduceLeDiff, Nat.reduceEqDiff, List.length_cons, List.length_nil, decide_true, decide_false, Bool.true_and, Bool.and_true, Bool.false_and, Bool.and_false, false_and, and_false, Bool.false_eq_true, Bool.true_eq_false, reduceCtorEq, eq_self, if_true, if_false, true_and, and_true, not_true_eq_false, not_false_eq_true, if_pos, if_neg, z_ite_not, false_or, or_false, true_or, or_true, SWs, swk_0, swk_1]
  exact H6
theorem shl_N {w kk : Nat} (hw : w < 4) (hL : L < 32) (ew : psK tp tl m = w + 256) (k2 : psK tp tl (m + 1) = 2) (x7 : psV tp tl (m + 1) ≤ 7) (k3 : psK tp tl (m + 2) = 2) (y7 : psV tp tl (m + 2) ≤ 7) (c : CNf X tp tl (m + 3) (w + 256) (psV tp tl (m + 1)) (psV tp tl (m + 2)) kk) (r : RNf X tp tl (m + 3) w (psV tp tl (m + 1)) (psV tp tl (m + 2)) kk) : CSf X tp tl m L F kk (tpo tp tl (m + 3)) ∧ RSf X tp tl m L F kk (tpo tp tl (m + 3)) := by
  have zL : ¬ L = 32 := by omega
  refine ⟨fun d I J hd h hJ => ?_, fun d I J hd h hG h10 => ?_⟩
  · obtain ⟨d, rfl⟩ : ∃ d', d = d' + 1 := ⟨d - 1, by omega⟩
    obtain ⟨k5, k6, k7⟩ := CQs_k h
    rw [ew] at k5
    obtain ⟨I1, e1, f1, s1⟩ := cs_nx (X := X) (d := d) (J := J) (by omega) h (psK_lt h.2.2.2.2 (by omega))
    obtain ⟨I2, e2, f2, s2⟩ := cs_numY (X := X) (d := d) (J := J) (a := 0) (b := 7) (by omega) s1 k2 (by omega) x7 (by decide)
    obtain ⟨I3, e3, f3, s3⟩ := cs_numY (X := X) (d := d) (J := J) (a := 0) (b := 7) (by omega) s2 k3 (by omega) y7 (by decide)
    obtain ⟨I4, e4, f4⟩ := c d I3 J (by omega) s3
    refine ⟨I4, J, ?_, CFl_after f1 (CFl_after f2 (CFl_after f3 f4)), fun _ _ => rfl⟩
    have z : ¬ w + 256 < 256 := by omega
    have z1 : w + 256 ≤ 259 := by omega
    have zx : ¬ nI (psV tp tl (m + 1)) = -1 := nI_ne (by omega)
    have zy : ¬ nI (psV tp tl (m + 2)) = -1 := nI_ne (by omega)
    refine callF_of (by decide) (Nat.le_of_ble_eq_true rfl) ?_
    show Ev X d 55 0 [.ref 124, .int (nI L), .retAddr 0, .retAddr 0, .retAddr 0, .retAddr 0, .retAddr 0] [] ( mk I J) _
    simp (disch := first | omega | assumption | exact rfl) only [U_55_0, U_55_1, U_55_3, U_55_5, U_55_7, U_55_8, U_55_10, U_55_11, U_55_12, XX, QQ, WW, KK, QX, SHs, RRs, Nat.reduceAdd, Nat.reduceMul, Nat.reduceLeDiff, Nat.reduceEqDiff, List.length_cons, List.length_nil, decide_true, decide_false, Bool.true_and, Bool.and_true, Bool.false_and, Bool.and_false, false_and, and_false, Bool.false_eq_true, Bool.true_eq_false, reduceCtorEq, eq_self, if_true, if_false, true_and, and_true, not_true_eq_false, not_false_eq_true, if_pos, if_neg, z_ite_not, false_or, or_false, true_or, or_true, SWs, swk_0, swk_1, k5, k6, z, z1, zL, e1, e2, zx, e3, zy, e4]
  · obtain ⟨d, rfl⟩ : ∃ d', d = d' + 1 := ⟨d - 1, by omega⟩
    obtain ⟨k5, k6, k7⟩ := RQs_k h
    rw [rq_w hw ew] at k5
    obtain ⟨I1, e1, f1, s1⟩ := rs_nx (X := X) (d := d) (J := J) (by omega) h (psK_lt h.2.2.2 (by omega))
    have v1 := (RQs_k s1).2.2 k2
    obtain ⟨I2, e2, f2, s2⟩ := rs_numY (X := X) (d := d) (J := J) (a := 0) (b := 7) (by omega) s1 k2 (by omega) x7 (by decide)
    have v2 : I2 177 16 = nI (psV tp tl (m + 2)) := (RQs_k s2).2.2 k3
    obtain ⟨I3, e3, f3, s3⟩ := rs_numY (X := X) (d := d) (J := J) (a := 0) (b := 7) (by omega) s2 k3 (by omega) y7 (by decide)
    obtain ⟨I4, f4, H4⟩ := r d I3 J (nI (tpo tp tl m)) (by omega) s3
    refine ⟨I4, ?_, RHk_t (RHq_r f1) (RHk_t (RHq_r f2) (RHk_t (RHq_r f3) (RHk_l f4)))⟩
    have z1 : 20 ≤ w + 20 := by omega
    have z2 : w + 20 ≤ 23 := by omega
    refine callF_of (by decide) (Nat.le_of_ble_eq_true rfl) ?_
    show Ev X d 182 0 [.ref 177, .retAddr 0, .retAddr 0, .retAddr 0, .retAddr 0, .retAddr 0, .retAddr 0] [] ( mk I J) _
    simp (disch := first | omega | assumption | exact rfl) only [U_182_0, U_182_2, U_182_4, U_182_6, XX, QQ, WW, KK, QX, SHs, RRs, Nat.reduceAdd, Nat.reduceMul, Nat.reduceLeDiff, Nat.reduceEqDiff, List.length_cons, List.length_nil, decide_true, decide_false, Bool.true_and, Bool.and_true, Bool.false_and, Bool.and_false, false_and, and_false, Bool.false_eq_true, Bool.true_eq_false, reduceCtorEq, eq_self, if_true, if_false, true_and, and_true, not_true_eq_false, not_false_eq_true, if_pos, if_neg, z_ite_not, false_or, or_false, true_or, or_true, SWs, swk_0, swk_1, r_isIn, k5, k6, h10, z1, z2, zL, Nat.add_sub_cancel, e1, v1, e2, v2, e3]
    exact H4
theorem shl_B {w x y n m1 : Nat} (hw : w < 4) (hx : x < 8) (hy : y < 8) (n8 : n ≤ 8) (h0 : w = 0 ∨ w = 3 → n = 1) (h1 : w = 1 → x + n ≤ 8) (h2 : w = 2 → y + n ≤ 8) (hF : F < 2 ^ 64) (hp : ¬ pop (shFm (w + 256) (8 * y + x) F n) ≤ 24) (c : CShd X tp tl m L w x y n m1) (r : RShd X tp tl m L F w x y n m1) : CSf X tp tl m L F 3 (tpo tp tl m) ∧ RSf X tp tl m L F 3 (tpo tp tl m) := by
  have lF := shFm_lt (k := w + 256) (pos := 8 * y + x) hF n
  have pb := pop_le (shFm (w + 256) (8 * y + x) F n)
  refine ⟨fun d I J hd h hJ => ?_, fun d I J hd h hG h10 => ?_⟩
  · obtain ⟨d, rfl⟩ : ∃ d', d = d' + 1 := ⟨d - 1, by omega⟩
    obtain ⟨I1, f1, s1, H⟩ := c d I J (by omega) h
    have e2 := c_57 (X := X) (d := d) (I := I1) (J := J) (k := w + 256) (pos := 8 * y + x) (n := n) (F := F) (by omega) (by omega) n8 (fitp hw hx hy h0 h1 h2) hF hJ
    obtain ⟨F', eF⟩ : ∃ F', F' = shFm (w + 256) (8 * y + x) F n := ⟨_, rfl⟩
    rw [← eF] at e2 hp lF pb
    obtain ⟨I3, e3, f3⟩ := c_fl (X := X) (d := d) (I := I1) (J := va_up J 124 (va_up (J 124) 3 (lN F'))) (k := 3) (p := tpo tp tl m) (by omega)
    refine ⟨I3, va_up J 124 (va_up (J 124) 3 (lN F')), H _ ?_, CFl_after f1 f3, fun a ha => vu_ne ha⟩
    have bc := s_bcL (X := X) (d := d) (M := mk I1 (va_up J 124 (va_up (J 124) 3 (lN F')))) (by omega) lF
    simp (disch := first | omega | assumption | exact rfl) only [U_55_13, U_55_14, XX, QQ, WW, KK, QX, SHs, RRs, Nat.reduceAdd, Nat.reduceMul, Nat.reduceLeDiff, Nat.reduceEqDiff, List.length_cons, List.length_nil, decide_true, decide_false, Bool.true_and, Bool.and_true, Bool.false_and, Bool.and_false, false_and, and_false, Bool.false_eq_true, Bool.true_eq_false, reduceCtorEq, eq_self, if_true, if_false, true_and, and_true, not_true_eq_false, not_false_eq_true, if_pos, if_neg, z_ite_not, false_or, or_false, true_or, or_true, SWs, swk_0, swk_1, e2, bc, hp, e3]
  · obtain ⟨d, rfl⟩ : ∃ d', d = d' + 1 := ⟨d - 1, by omega⟩
    obtain ⟨I1, f1, s1, g1, H⟩ := r d I J (by omega) h hG h10
    have e2 := r_181 (X := X) (d := d) (J := J) (by omega) g1
    obtain ⟨F', eF⟩ : ∃ F', F' = shFm (w + 256) (8 * y + x) F n := ⟨_, rfl⟩
    rw [← eF] at e2 hp lF pb
    refine ⟨va_up I1 177 (va_up (va_up (I1 177) 17 (nI 3)) 18 (nI (tpo tp tl m))), H _ ?_, RHk_t f1 ⟨fun a x _ _ _ => vu_ne x, fun k hk => by rw [vu_eq, vu_ne (by omega), vu_ne (by omega)], by rw [vu_eq, vu_ne (by decide), vu_eq], by rw [vu_eq, vu_eq]⟩⟩
    simp (disch := first | omega | assumption | exact rfl) only [U_182_27, U_182_28, XX, QQ, WW, KK, QX, SHs, RRs, Nat.reduceAdd, Nat.reduceMul, Nat.reduceLeDiff, Nat.reduceEqDiff, List.length_cons, List.length_nil, decide_true, decide_false, Bool.true_and, Bool.and_true, Bool.false_and, Bool.and_false, false_and, and_false, Bool.false_eq_true, Bool.true_eq_false, reduceCtorEq, eq_self, if_true, if_false, true_and, and_true, not_true_eq_false, not_false_eq_true, if_pos, if_neg, z_ite_not, false_or, or_false, true_or, or_true, SWs, swk_0, swk_1, e2, hp]
theorem shl_S {w x y n m1 : Nat} (hw : w < 4) (hx : x < 8) (hy : y < 8) (n8 : n ≤ 8) (h0 : w = 0 ∨ w = 3 → n = 1) (h1 : w = 1 → x + n ≤ 8) (h2 : w = 2 → y + n ≤ 8) (hF : F < 2 ^ 64) (hp : pop (shFm (w + 256) (8 * y + x) F n) ≤ 24) (ks : psK tp tl m1 ≠ 59) (c : CShd X tp tl m L w x y n m1) (r : RShd X tp tl m L F w x y n m1) : CSf X tp tl m L F 1 (tpo tp tl m1) ∧ RSf X tp tl m L F 1 (tpo tp tl m1) := by
  have lF := shFm_lt (k := w + 256) (pos := 8 * y + x) hF n
  refine ⟨fun d I J hd h hJ => ?_, fun d I J hd h hG h10 => ?_⟩
  · obtain ⟨d, rfl⟩ : ∃ d', d = d' + 1 := ⟨d - 1, by omega⟩
    obtain ⟨I1, f1, s1, H⟩ := c d I J (by omega) h
    have e2 := c_57 (X := X) (d := d) (I := I1) (J := J) (k := w + 256) (pos := 8 * y + x) (n := n) (F := F) (by omega) (by omega) n8 (fitp hw hx hy h0 h1 h2) hF hJ
    obtain ⟨F', eF⟩ : ∃ F', F' = shFm (w + 256) (8 * y + x) F n := ⟨_, rfl⟩
    rw [← eF] at e2 hp lF
    obtain ⟨I3, e3, f3⟩ := cs_accF (X := X) (d := d) (J := va_up J 124 (va_up (J 124) 3 (lN F'))) (k := 59) (by omega) s1 ks (by decide)
    refine ⟨I3, va_up J 124 (va_up (J 124) 3 (lN F')), H _ ?_, CFl_after f1 f3, fun a ha => vu_ne ha⟩
    have bc := s_bcL (X := X) (d := d) (M := mk I1 (va_up J 124 (va_up (J 124) 3 (lN F')))) (by omega) lF
    simp (disch := first | omega | assumption | exact rfl) only [U_55_13, U_55_15, XX, QQ, WW, KK, QX, SHs, RRs, Nat.reduceAdd, Nat.reduceMul, Nat.reduceLeDiff, Nat.reduceEqDiff, List.length_cons, List.length_nil, decide_true, decide_false, Bool.true_and, Bool.and_true, Bool.false_and, Bool.and_false, false_and, and_false, Bool.false_eq_true, Bool.true_eq_false, reduceCtorEq, eq_self, if_true, if_false, true_and, and_true, not_true_eq_false, not_false_eq_true, if_pos, if_neg, z_ite_not, false_or, or_false, true_or, or_true, SWs, swk_0, swk_1, e2, bc, hp, e3]
  · obtain ⟨d, rfl⟩ : ∃ d', d = d' + 1 := ⟨d - 1, by omega⟩
    obtain ⟨I1, f1, s1, g1, H⟩ := r d I J (by omega) h hG h10
    have e2 := r_181 (X := X) (d := d) (J := J) (by omega) g1
    have ks' : rtk true (psK tp tl m1) ≠ 159 := fun z => ks ((rs_1 _ psK_b).2.1.mp z)
    obtain ⟨F', eF⟩ : ∃ F', F' = shFm (w + 256) (8 * y + x) F n := ⟨_, rfl⟩
    rw [← eF] at e2 hp lF
    obtain ⟨I3, e3, f3⟩ := rs_needF (X := X) (d := d) (J := J) (c := 159) (by omega) s1 ks' (by decide)
    refine ⟨I3, H _ ?_, RHk_t f1 (RHk_l f3)⟩
    simp (disch := first | omega | assumption | exact rfl) only [U_182_27, U_182_29, XX, QQ, WW, KK, QX, SHs, RRs, Nat.reduceAdd, Nat.reduceMul, Nat.reduceLeDiff, Nat.reduceEqDiff, List.length_cons, List.length_nil, decide_true, decide_false, Bool.true_and, Bool.and_true, Bool.false_and, Bool.and_false, false_and, and_false, Bool.false_eq_true, Bool.true_eq_false, reduceCtorEq, eq_self, if_true, if_false, true_and, and_true, not_true_eq_false, not_false_eq_true, if_pos, if_neg, z_ite_not, false_or, or_false, true_or, or_true, SWs, swk_0, swk_1, e2, hp, e3]
theorem shl_K {w x y n m1 : Nat} (hw : w < 4) (hx : x < 8) (hy : y < 8) (n8 : n ≤ 8) (h0 : w = 0 ∨ w = 3 → n = 1) (h1 : w = 1 → x + n ≤ 8) (h2 : w = 2 → y + n ≤ 8) (hF : F < 2 ^ 64) (hp : pop (shFm (w + 256) (8 * y + x) F n) ≤ 24) (ks : psK tp tl m1 = 59) (c : CShd X tp tl m L w x y n m1) (r : RShd X tp tl m L F w x y n m1) : CSt X tp tl m L F (m1 + 1) (shFm (w + 256) (8 * y + x) F n) ∧ RSt X tp tl m L F (m1 + 1) (shFm (w + 256) (8 * y + x) F n) := by
  have lF := shFm_lt (k := w + 256) (pos := 8 * y + x) hF n
  refine ⟨fun d I J hd h hJ => ?_, fun d I J hd h hG h10 => ?_⟩
  · obtain ⟨d, rfl⟩ : ∃ d', d = d' + 1 := ⟨d - 1, by omega⟩
    obtain ⟨I1, f1, s1, H⟩ := c d I J (by omega) h
    have e2 := c_57 (X := X) (d := d) (I := I1) (J := J) (k := w + 256) (pos := 8 * y + x) (n := n) (F := F) (by omega) (by omega) n8 (fitp hw hx hy h0 h1 h2) hF hJ
    obtain ⟨F', eF⟩ : ∃ F', F' = shFm (w + 256) (8 * y + x) F n := ⟨_, rfl⟩
    rw [← eF] at e2 hp lF
    obtain ⟨I3, e3, f3, s3⟩ := cs_accY (X := X) (d := d) (J := va_up J 124 (va_up (J 124) 3 (lN F'))) (k := 59) (by omega) s1 ks (by decide)
    refine ⟨I3, va_up J 124 (va_up (J 124) 3 (lN F')), H _ ?_, CFr_trans f1 f3, fun a ha => vu_ne ha, by rw [vu_eq, vu_eq, eF], s3⟩
    have bc := s_bcL (X := X) (d := d) (M := mk I1 (va_up J 124 (va_up (J 124) 3 (lN F')))) (by omega) lF
    simp (disch := first | omega | assumption | exact rfl) only [U_55_13, U_55_15, XX, QQ, WW, KK, QX, SHs, RRs, Nat.reduceAdd, Nat.reduceMul, Nat.reduceLeDiff, Nat.reduceEqDiff, List.length_cons, List.length_nil, decide_true, decide_false, Bool.true_and, Bool.and_true, Bool.false_and, Bool.and_false, false_and, and_false, Bool.false_eq_true, Bool.true_eq_false, reduceCtorEq, eq_self, if_true, if_false, true_and, and_true, not_true_eq_false, not_false_eq_true, if_pos, if_neg, z_ite_not, false_or, or_false, true_or, or_true, SWs, swk_0, swk_1, e2, bc, hp, e3]
  · obtain ⟨d, rfl⟩ : ∃ d', d = d' + 1 := ⟨d - 1, by omega⟩
    obtain ⟨I1, f1, s1, g1, H⟩ := r d I J (by omega) h hG h10
    have e2 := r_181 (X := X) (d := d) (J := J) (by omega) g1
    obtain ⟨F', eF⟩ : ∃ F', F' = shFm (w + 256) (8 * y + x) F n := ⟨_, rfl⟩
    rw [← eF] at e2 hp lF
    obtain ⟨I3, e3, f3, s3⟩ := rs_needY (X := X) (d := d) (J := J) (k := 59) (c := 159) (by omega) s1 ks (by decide) (by decide)
    refine ⟨I3, H _ ?_, RHq_t f1 (RHq_r f3), s3, GR_fr f3 g1⟩
    simp (disch := first | omega | assumption | exact rfl) only [U_182_27, U_182_29, XX, QQ, WW, KK, QX, SHs, RRs, Nat.reduceAdd, Nat.reduceMul, Nat.reduceLeDiff, Nat.reduceEqDiff, List.length_cons, List.length_nil, decide_true, decide_false, Bool.true_and, Bool.and_true, Bool.false_and, Bool.and_false, false_and, and_false, Bool.false_eq_true, Bool.true_eq_false, reduceCtorEq, eq_self, if_true, if_false, true_and, and_true, not_true_eq_false, not_false_eq_true, if_pos, if_neg, z_ite_not, false_or, or_false, true_or, or_true, SWs, swk_0, swk_1, e2, hp, e3]
theorem shline_ (hL : L ≤ 32) (hm : m ≤ tkT tp tl) (hF : F < 2 ^ 64) : (∃ k p, CSf X tp tl m L F k p ∧ RSf X tp tl m L F k p) ∨ (L < 32 ∧ ∃ m' F', m' ≤ tkT tp tl ∧ m < m' ∧ F' < 2 ^ 64 ∧ pop F' ≤ 24 ∧ CSt X tp tl m L F m' F' ∧ RSt X tp tl m L F m' F') := by
  by_cases kn : 256 ≤ psK tp tl m ∧ psK tp tl m < 260
  · obtain ⟨w, ew⟩ : ∃ w, psK tp tl m = w + 256 := ⟨psK tp tl m - 256, by omega⟩
    have hw : w < 4 := by omega
    have hm1 := psK_lt hm (by omega)
    by_cases l32 : L = 32
    · subst l32; exact Or.inl ⟨_, _, shl_M hw ew⟩
    · have hL' : L < 32 := by omega
      rcases numS_ (X := X) (tp := tp) (tl := tl) (m := m + 1) (a := 0) (b := 7) (by decide) (by decide) with ⟨kk, c, r⟩ | ⟨k2, _, x7⟩
      · exact Or.inl ⟨_, _, shl_X hw hL' ew c r⟩
      · have hm2 := psK_lt (m := m + 1) hm1 (by omega)
        rcases numS_ (X := X) (tp := tp) (tl := tl) (m := m + 2) (a := 0) (b := 7) (by decide) (by decide) with ⟨kk, c, r⟩ | ⟨k3, _, y7⟩
        · exact Or.inl ⟨_, _, shl_Y hw hL' ew k2 x7 c r⟩
        · have hm3 := psK_lt (m := m + 2) hm2 (by omega)
          rcases nst_ (X := X) (tp := tp) (tl := tl) (m := m + 3) (w := w) (x := psV tp tl (m + 1)) (y := psV tp tl (m + 2)) hw (by omega) (by omega) hm3 with ⟨kk, c, r⟩ | ⟨m1, n, b1, b2, b3, n8, h0, h1, h2, c, r⟩
          · exact Or.inl ⟨_, _, shl_N hw hL' ew k2 x7 k3 y7 c r⟩
          · have hc := csh_ (X := X) hw hL' ew k2 x7 k3 y7 n8 c
            have hr := rsh_ (X := X) (F := F) hw hL' ew k2 x7 k3 y7 n8 h0 h1 h2 r
            by_cases hp : pop (shFm (w + 256) (8 * psV tp tl (m + 2) + psV tp tl (m + 1)) F n) ≤ 24
            · by_cases ks : psK tp tl m1 = 59
              · have hm4 := psK_lt (m := m1) b2 (by omega)
                exact Or.inr ⟨hL', m1 + 1, _, hm4, by omega, shFm_lt hF n, hp, shl_K hw (by omega) (by omega) n8 h0 h1 h2 hF hp ks hc hr⟩
              · exact Or.inl ⟨_, _, shl_S hw (by omega) (by omega) n8 h0 h1 h2 hF hp ks hc hr⟩
            · exact Or.inl ⟨_, _, shl_B hw (by omega) (by omega) n8 h0 h1 h2 hF hp hc hr⟩
  · exact Or.inl ⟨_, _, shl_F hL kn⟩
end SHA
