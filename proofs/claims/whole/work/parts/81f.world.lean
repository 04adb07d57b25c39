/-! ===== constructors: worlds (gen81.py) ===== -/
theorem row_1 : va_up (va_up (va_up (va_up (va_up (va_up (va_up nR 5 (some 2)) 6 (some 3)) 7 (some 4)) 8 (some 5)) 9 (some 6)) 10 (some 7)) 11 (some 8) = RR 1 := by
  funext k
  rcases k with _ | _ | _ | _ | _ | _ | _ | _ | _ | _ | _ | _ | k
  all_goals rfl
theorem row_5 : va_up (va_up (va_up (va_up (va_up (va_up nR 0 (some 14)) 1 (some 18)) 2 (some 22)) 3 (some 26)) 4 (some 30)) 5 (some 34) = RR 5 := by
  funext k
  rcases k with _ | _ | _ | _ | _ | _ | k
  all_goals rfl
theorem row_6 : va_up (va_up (va_up nR 0 (some 38)) 1 (some 46)) 2 (some 54) = RR 6 := by
  funext k
  rcases k with _ | _ | _ | k
  all_goals rfl
theorem wo_1 {X : Nat × (Nat → Int32)} {d : Nat} {R : Nat → Nat → Option Nat} {I : Nat → Nat → Int32} {J : Nat → Nat → Int64} (hd : 6 ≤ d) (hR : R 1 = nR) : ∃ I' J', callF X d 105 [.ref 1] (mkS 2 R I J) = some (none, mkS 62 (fq R 1 62) I' J') ∧ (∀ a, a < 1 ∨ 62 ≤ a → I' a = I a) ∧ (∀ a, a < 1 ∨ 62 ≤ a → J' a = J a) ∧ I' 1 = I 1 ∧ I' 2 = zI ∧ I' 3 = zI ∧ J' 4 = zJ ∧ (∀ i, i < 576 → I' 7 i = -1) ∧ I' 8 = zI ∧ J' 14 0 = lN 0 ∧ I' 14 1 = nI 0 ∧ (∀ i, i < 24 → I' 15 i = -1) ∧ J' 18 0 = lN 0 ∧ I' 18 1 = nI 0 ∧ (∀ i, i < 24 → I' 19 i = -1) ∧ J' 22 0 = lN 0 ∧ I' 22 1 = nI 0 ∧ (∀ i, i < 24 → I' 23 i = -1) ∧ J' 26 0 = lN 0 ∧ I' 26 1 = nI 0 ∧ (∀ i, i < 24 → I' 27 i = -1) ∧ J' 30 0 = lN 0 ∧ I' 30 1 = nI 0 ∧ (∀ i, i < 24 → I' 31 i = -1) ∧ J' 34 0 = lN 0 ∧ I' 34 1 = nI 0 ∧ (∀ i, i < 24 → I' 35 i = -1) ∧ I' 38 = zI ∧ I' 46 = zI ∧ I' 54 = zI := by
  obtain ⟨d, rfl⟩ : ∃ d', d = d' + 1 := ⟨d - 1, by omega⟩
  have q2 : RR 2 = nR := RR_nil rfl
  have q3 : RR 3 = nR := RR_nil rfl
  have q4 : RR 4 = nR := RR_nil rfl
  have q7 : RR 7 = nR := RR_nil rfl
  have s1 : SH 1 = (10, 12) := rfl
  have s2 : SH 2 = (20, 24) := rfl
  have s3 : SH 3 = (20, 24) := rfl
  have s4 : SH 4 = (21, 6) := rfl
  have s5 : SH 5 = (24, 6) := rfl
  have s6 : SH 6 = (23, 3) := rfl
  have s7 : SH 7 = (20, 576) := rfl
  have s8 : SH 8 = (1, 6) := rfl
  have s14 : SH 14 = (9, 5) := rfl
  have s18 : SH 18 = (9, 5) := rfl
  have s22 : SH 22 = (9, 5) := rfl
  have s26 : SH 26 = (9, 5) := rfl
  have s30 : SH 30 = (9, 5) := rfl
  have s34 : SH 34 = (9, 5) := rfl
  have s38 : SH 38 = (6, 10) := rfl
  have s46 : SH 46 = (6, 10) := rfl
  have s54 : SH 54 = (6, 10) := rfl
  obtain ⟨I1, J1, e1, f1, g1, c1⟩ := hi_8 (X := X) (d := d) (R := va_up (fw R 1 8 (va_up (va_up (va_up (va_up (va_up (va_up nR 5 (some 2)) 6 (some 3)) 7 (some 4)) 8 (some 5)) 9 (some 6)) 10 (some 7)) (nR) (nR)) 8 nR) (I := va_up (va_up (va_up (va_up (va_up (va_up (va_up I 2 zI) 3 zI) 4 zI) 5 zI) 6 zI) 7 zI) 8 zI) (J := va_up (va_up (va_up (va_up (va_up (va_up (va_up J 2 zJ) 3 zJ) 4 zJ) 5 zJ) 6 zJ) 7 zJ) 8 zJ) (by omega) vu_eq
  rw [fw_ch (by decide) (by decide)] at e1
  obtain ⟨I2, J2, e2, f2, g2, c2⟩ := wa_14 (X := X) (d := d) (R := va_up (fw R 1 14 (va_up (va_up (va_up (va_up (va_up (va_up (va_up nR 5 (some 2)) 6 (some 3)) 7 (some 4)) 8 (some 5)) 9 (some 6)) 10 (some 7)) 11 (some 8)) (nR) (nR)) 14 nR) (I := va_up I1 14 zI) (J := va_up J1 14 zJ) (by omega) vu_eq
  rw [fw_ch (by decide) (by decide)] at e2
  obtain ⟨I3, J3, e3, f3, g3, c3⟩ := wa_18 (X := X) (d := d) (R := va_up (fw R 1 18 (va_up (va_up (va_up (va_up (va_up (va_up (va_up nR 5 (some 2)) 6 (some 3)) 7 (some 4)) 8 (some 5)) 9 (some 6)) 10 (some 7)) 11 (some 8)) (va_up nR 0 (some 14)) (nR)) 18 nR) (I := va_up I2 18 zI) (J := va_up J2 18 zJ) (by omega) vu_eq
  rw [fw_ch (by decide) (by decide)] at e3
  obtain ⟨I4, J4, e4, f4, g4, c4⟩ := wa_22 (X := X) (d := d) (R := va_up (fw R 1 22 (va_up (va_up (va_up (va_up (va_up (va_up (va_up nR 5 (some 2)) 6 (some 3)) 7 (some 4)) 8 (some 5)) 9 (some 6)) 10 (some 7)) 11 (some 8)) (va_up (va_up nR 0 (some 14)) 1 (some 18)) (nR)) 22 nR) (I := va_up I3 22 zI) (J := va_up J3 22 zJ) (by omega) vu_eq
  rw [fw_ch (by decide) (by decide)] at e4
  obtain ⟨I5, J5, e5, f5, g5, c5⟩ := wa_26 (X := X) (d := d) (R := va_up (fw R 1 26 (va_up (va_up (va_up (va_up (va_up (va_up (va_up nR 5 (some 2)) 6 (some 3)) 7 (some 4)) 8 (some 5)) 9 (some 6)) 10 (some 7)) 11 (some 8)) (va_up (va_up (va_up nR 0 (some 14)) 1 (some 18)) 2 (some 22)) (nR)) 26 nR) (I := va_up I4 26 zI) (J := va_up J4 26 zJ) (by omega) vu_eq
  rw [fw_ch (by decide) (by decide)] at e5
  obtain ⟨I6, J6, e6, f6, g6, c6⟩ := wa_30 (X := X) (d := d) (R := va_up (fw R 1 30 (va_up (va_up (va_up (va_up (va_up (va_up (va_up nR 5 (some 2)) 6 (some 3)) 7 (some 4)) 8 (some 5)) 9 (some 6)) 10 (some 7)) 11 (some 8)) (va_up (va_up (va_up (va_up nR 0 (some 14)) 1 (some 18)) 2 (some 22)) 3 (some 26)) (nR)) 30 nR) (I := va_up I5 30 zI) (J := va_up J5 30 zJ) (by omega) vu_eq
  rw [fw_ch (by decide) (by decide)] at e6
  obtain ⟨I7, J7, e7, f7, g7, c7⟩ := wa_34 (X := X) (d := d) (R := va_up (fw R 1 34 (va_up (va_up (va_up (va_up (va_up (va_up (va_up nR 5 (some 2)) 6 (some 3)) 7 (some 4)) 8 (some 5)) 9 (some 6)) 10 (some 7)) 11 (some 8)) (va_up (va_up (va_up (va_up (va_up nR 0 (some 14)) 1 (some 18)) 2 (some 22)) 3 (some 26)) 4 (some 30)) (nR)) 34 nR) (I := va_up I6 34 zI) (J := va_up J6 34 zJ) (by omega) vu_eq
  rw [fw_ch (by decide) (by decide)] at e7
  obtain ⟨I8, J8, e8, f8, g8, c8⟩ := ru_38 (X := X) (d := d) (R := va_up (fw R 1 38 (va_up (va_up (va_up (va_up (va_up (va_up (va_up nR 5 (some 2)) 6 (some 3)) 7 (some 4)) 8 (some 5)) 9 (some 6)) 10 (some 7)) 11 (some 8)) (va_up (va_up (va_up (va_up (va_up (va_up nR 0 (some 14)) 1 (some 18)) 2 (some 22)) 3 (some 26)) 4 (some 30)) 5 (some 34)) (nR)) 38 nR) (I := va_up I7 38 zI) (J := va_up J7 38 zJ) (by omega) vu_eq
  rw [fw_ch (by decide) (by decide)] at e8
  obtain ⟨I9, J9, e9, f9, g9, c9⟩ := ru_46 (X := X) (d := d) (R := va_up (fw R 1 46 (va_up (va_up (va_up (va_up (va_up (va_up (va_up nR 5 (some 2)) 6 (some 3)) 7 (some 4)) 8 (some 5)) 9 (some 6)) 10 (some 7)) 11 (some 8)) (va_up (va_up (va_up (va_up (va_up (va_up nR 0 (some 14)) 1 (some 18)) 2 (some 22)) 3 (some 26)) 4 (some 30)) 5 (some 34)) (va_up nR 0 (some 38))) 46 nR) (I := va_up I8 46 zI) (J := va_up J8 46 zJ) (by omega) vu_eq
  rw [fw_ch (by decide) (by decide)] at e9
  obtain ⟨I10, J10, e10, f10, g10, c10⟩ := ru_54 (X := X) (d := d) (R := va_up (fw R 1 54 (va_up (va_up (va_up (va_up (va_up (va_up (va_up nR 5 (some 2)) 6 (some 3)) 7 (some 4)) 8 (some 5)) 9 (some 6)) 10 (some 7)) 11 (some 8)) (va_up (va_up (va_up (va_up (va_up (va_up nR 0 (some 14)) 1 (some 18)) 2 (some 22)) 3 (some 26)) 4 (some 30)) 5 (some 34)) (va_up (va_up nR 0 (some 38)) 1 (some 46))) 54 nR) (I := va_up I9 54 zI) (J := va_up J9 54 zJ) (by omega) vu_eq
  rw [fw_ch (by decide) (by decide)] at e10
  have ef : fw R 1 62 (va_up (va_up (va_up (va_up (va_up (va_up (va_up nR 5 (some 2)) 6 (some 3)) 7 (some 4)) 8 (some 5)) 9 (some 6)) 10 (some 7)) 11 (some 8)) (va_up (va_up (va_up (va_up (va_up (va_up nR 0 (some 14)) 1 (some 18)) 2 (some 22)) 3 (some 26)) 4 (some 30)) 5 (some 34)) (va_up (va_up (va_up nR 0 (some 38)) 1 (some 46)) 2 (some 54)) = fq R 1 62 := fw_fq row_1 row_5 row_6 (by decide)
  have fl := s_fill (X := X) (d := d) (M := mkS 62 (fw R 1 62 (va_up (va_up (va_up (va_up (va_up (va_up (va_up nR 5 (some 2)) 6 (some 3)) 7 (some 4)) 8 (some 5)) 9 (some 6)) 10 (some 7)) 11 (some 8)) (va_up (va_up (va_up (va_up (va_up (va_up nR 0 (some 14)) 1 (some 18)) 2 (some 22)) 3 (some 26)) 4 (some 30)) 5 (some 34)) (va_up (va_up (va_up nR 0 (some 38)) 1 (some 46)) 2 (some 54))) I10 J10) (a := 7) (n := 576) (v := -1) (by omega) rfl (by decide)
  rw [S_I, S_rI] at fl
  refine ⟨va_up I10 7 (fillI 576 (-1) (I10 7)), J10, ?_, fun a ha => ?_, fun a ha => ?_, ?_, ?_, ?_, ?_, fun i hi => ?_, ?_, ?_, ?_, fun i hi => ?_, ?_, ?_, fun i hi => ?_, ?_, ?_, fun i hi => ?_, ?_, ?_, fun i hi => ?_, ?_, ?_, fun i hi => ?_, ?_, ?_, fun i hi => ?_, ?_, ?_, ?_⟩
  · rw [← ef, show mkS 2 R I J = mkS 2 (fw R 1 2 nR (R (1 + 4)) (R (1 + 5))) I J from congrArg (fun z => mkS 2 z I J) (fwb_0 hR)]
    refine callF_of (by decide) (Nat.le_of_ble_eq_true rfl) ?_
    show Ev X d 105 0 [.ref 1, .retAddr 0] [] ( mkS 2 (fw R 1 2 nR (R (1 + 4)) (R (1 + 5))) I J) _
    simp (disch := first | omega | assumption | exact rfl) only [U_105_0, U_105_1, U_105_2, U_105_3, U_105_4, U_105_5, U_105_6, XX, QQ, WW, KK, QX, SHs, RRs, Nat.reduceAdd, Nat.reduceMul, Nat.reduceLeDiff, Nat.reduceEqDiff, List.length_cons, List.length_nil, decide_true, decide_false, Bool.true_and, Bool.and_true, Bool.false_and, Bool.and_false, false_and, and_false, Bool.false_eq_true, Bool.true_eq_false, reduceCtorEq, eq_self, if_true, if_false, true_and, and_true, not_true_eq_false, not_false_eq_true, if_pos, if_neg, z_ite_not, false_or, or_false, true_or, or_true, SWs, swk_0, swk_1, SSs, FWs, e1, e2, e3, e4, e5, e6, e7, e8, e9, e10, fl]
  · rw [vu_ne (by omega), f10 a (by omega), vu_ne (by omega), f9 a (by omega), vu_ne (by omega), f8 a (by omega), vu_ne (by omega), f7 a (by omega), vu_ne (by omega), f6 a (by omega), vu_ne (by omega), f5 a (by omega), vu_ne (by omega), f4 a (by omega), vu_ne (by omega), f3 a (by omega), vu_ne (by omega), f2 a (by omega), vu_ne (by omega), f1 a (by omega), vu_ne (by omega), vu_ne (by omega), vu_ne (by omega), vu_ne (by omega), vu_ne (by omega), vu_ne (by omega), vu_ne (by omega)]
  · rw [g10 a (by omega), vu_ne (by omega), g9 a (by omega), vu_ne (by omega), g8 a (by omega), vu_ne (by omega), g7 a (by omega), vu_ne (by omega), g6 a (by omega), vu_ne (by omega), g5 a (by omega), vu_ne (by omega), g4 a (by omega), vu_ne (by omega), g3 a (by omega), vu_ne (by omega), g2 a (by omega), vu_ne (by omega), g1 a (by omega), vu_ne (by omega), vu_ne (by omega), vu_ne (by omega), vu_ne (by omega), vu_ne (by omega), vu_ne (by omega), vu_ne (by omega)]
  · rw [vu_ne (by omega), f10 1 (by omega), vu_ne (by omega), f9 1 (by omega), vu_ne (by omega), f8 1 (by omega), vu_ne (by omega), f7 1 (by omega), vu_ne (by omega), f6 1 (by omega), vu_ne (by omega), f5 1 (by omega), vu_ne (by omega), f4 1 (by omega), vu_ne (by omega), f3 1 (by omega), vu_ne (by omega), f2 1 (by omega), vu_ne (by omega), f1 1 (by omega), vu_ne (by omega), vu_ne (by omega), vu_ne (by omega), vu_ne (by omega), vu_ne (by omega), vu_ne (by omega), vu_ne (by omega)]
  · rw [vu_ne (by omega), f10 2 (by omega), vu_ne (by omega), f9 2 (by omega), vu_ne (by omega), f8 2 (by omega), vu_ne (by omega), f7 2 (by omega), vu_ne (by omega), f6 2 (by omega), vu_ne (by omega), f5 2 (by omega), vu_ne (by omega), f4 2 (by omega), vu_ne (by omega), f3 2 (by omega), vu_ne (by omega), f2 2 (by omega), vu_ne (by omega), f1 2 (by omega), vu_ne (by omega), vu_ne (by omega), vu_ne (by omega), vu_ne (by omega), vu_ne (by omega), vu_ne (by omega), vu_eq]
  · rw [vu_ne (by omega), f10 3 (by omega), vu_ne (by omega), f9 3 (by omega), vu_ne (by omega), f8 3 (by omega), vu_ne (by omega), f7 3 (by omega), vu_ne (by omega), f6 3 (by omega), vu_ne (by omega), f5 3 (by omega), vu_ne (by omega), f4 3 (by omega), vu_ne (by omega), f3 3 (by omega), vu_ne (by omega), f2 3 (by omega), vu_ne (by omega), f1 3 (by omega), vu_ne (by omega), vu_ne (by omega), vu_ne (by omega), vu_ne (by omega), vu_ne (by omega), vu_eq]
  · rw [g10 4 (by omega), vu_ne (by omega), g9 4 (by omega), vu_ne (by omega), g8 4 (by omega), vu_ne (by omega), g7 4 (by omega), vu_ne (by omega), g6 4 (by omega), vu_ne (by omega), g5 4 (by omega), vu_ne (by omega), g4 4 (by omega), vu_ne (by omega), g3 4 (by omega), vu_ne (by omega), g2 4 (by omega), vu_ne (by omega), g1 4 (by omega), vu_ne (by omega), vu_ne (by omega), vu_ne (by omega), vu_ne (by omega), vu_eq]
  · rw [vu_eq]; exact if_pos hi
  · rw [vu_ne (by omega), f10 8 (by omega), vu_ne (by omega), f9 8 (by omega), vu_ne (by omega), f8 8 (by omega), vu_ne (by omega), f7 8 (by omega), vu_ne (by omega), f6 8 (by omega), vu_ne (by omega), f5 8 (by omega), vu_ne (by omega), f4 8 (by omega), vu_ne (by omega), f3 8 (by omega), vu_ne (by omega), f2 8 (by omega), vu_ne (by omega), c1, vu_eq]
  · rw [g10 14 (by omega), vu_ne (by omega), g9 14 (by omega), vu_ne (by omega), g8 14 (by omega), vu_ne (by omega), g7 14 (by omega), vu_ne (by omega), g6 14 (by omega), vu_ne (by omega), g5 14 (by omega), vu_ne (by omega), g4 14 (by omega), vu_ne (by omega), g3 14 (by omega), vu_ne (by omega)]; exact c2.1
  · rw [vu_ne (by omega), f10 14 (by omega), vu_ne (by omega), f9 14 (by omega), vu_ne (by omega), f8 14 (by omega), vu_ne (by omega), f7 14 (by omega), vu_ne (by omega), f6 14 (by omega), vu_ne (by omega), f5 14 (by omega), vu_ne (by omega), f4 14 (by omega), vu_ne (by omega), f3 14 (by omega), vu_ne (by omega)]; exact c2.2.1
  · rw [vu_ne (by omega), f10 15 (by omega), vu_ne (by omega), f9 15 (by omega), vu_ne (by omega), f8 15 (by omega), vu_ne (by omega), f7 15 (by omega), vu_ne (by omega), f6 15 (by omega), vu_ne (by omega), f5 15 (by omega), vu_ne (by omega), f4 15 (by omega), vu_ne (by omega), f3 15 (by omega), vu_ne (by omega)]; exact c2.2.2 i hi
  · rw [g10 18 (by omega), vu_ne (by omega), g9 18 (by omega), vu_ne (by omega), g8 18 (by omega), vu_ne (by omega), g7 18 (by omega), vu_ne (by omega), g6 18 (by omega), vu_ne (by omega), g5 18 (by omega), vu_ne (by omega), g4 18 (by omega), vu_ne (by omega)]; exact c3.1
  · rw [vu_ne (by omega), f10 18 (by omega), vu_ne (by omega), f9 18 (by omega), vu_ne (by omega), f8 18 (by omega), vu_ne (by omega), f7 18 (by omega), vu_ne (by omega), f6 18 (by omega), vu_ne (by omega), f5 18 (by omega), vu_ne (by omega), f4 18 (by omega), vu_ne (by omega)]; exact c3.2.1
  · rw [vu_ne (by omega), f10 19 (by omega), vu_ne (by omega), f9 19 (by omega), vu_ne (by omega), f8 19 (by omega), vu_ne (by omega), f7 19 (by omega), vu_ne (by omega), f6 19 (by omega), vu_ne (by omega), f5 19 (by omega), vu_ne (by omega), f4 19 (by omega), vu_ne (by omega)]; exact c3.2.2 i hi
  · rw [g10 22 (by omega), vu_ne (by omega), g9 22 (by omega), vu_ne (by omega), g8 22 (by omega), vu_ne (by omega), g7 22 (by omega), vu_ne (by omega), g6 22 (by omega), vu_ne (by omega), g5 22 (by omega), vu_ne (by omega)]; exact c4.1
  · rw [vu_ne (by omega), f10 22 (by omega), vu_ne (by omega), f9 22 (by omega), vu_ne (by omega), f8 22 (by omega), vu_ne (by omega), f7 22 (by omega), vu_ne (by omega), f6 22 (by omega), vu_ne (by omega), f5 22 (by omega), vu_ne (by omega)]; exact c4.2.1
  · rw [vu_ne (by omega), f10 23 (by omega), vu_ne (by omega), f9 23 (by omega), vu_ne (by omega), f8 23 (by omega), vu_ne (by omega), f7 23 (by omega), vu_ne (by omega), f6 23 (by omega), vu_ne (by omega), f5 23 (by omega), vu_ne (by omega)]; exact c4.2.2 i hi
  · rw [g10 26 (by omega), vu_ne (by omega), g9 26 (by omega), vu_ne (by omega), g8 26 (by omega), vu_ne (by omega), g7 26 (by omega), vu_ne (by omega), g6 26 (by omega), vu_ne (by omega)]; exact c5.1
  · rw [vu_ne (by omega), f10 26 (by omega), vu_ne (by omega), f9 26 (by omega), vu_ne (by omega), f8 26 (by omega), vu_ne (by omega), f7 26 (by omega), vu_ne (by omega), f6 26 (by omega), vu_ne (by omega)]; exact c5.2.1
  · rw [vu_ne (by omega), f10 27 (by omega), vu_ne (by omega), f9 27 (by omega), vu_ne (by omega), f8 27 (by omega), vu_ne (by omega), f7 27 (by omega), vu_ne (by omega), f6 27 (by omega), vu_ne (by omega)]; exact c5.2.2 i hi
  · rw [g10 30 (by omega), vu_ne (by omega), g9 30 (by omega), vu_ne (by omega), g8 30 (by omega), vu_ne (by omega), g7 30 (by omega), vu_ne (by omega)]; exact c6.1
  · rw [vu_ne (by omega), f10 30 (by omega), vu_ne (by omega), f9 30 (by omega), vu_ne (by omega), f8 30 (by omega), vu_ne (by omega), f7 30 (by omega), vu_ne (by omega)]; exact c6.2.1
  · rw [vu_ne (by omega), f10 31 (by omega), vu_ne (by omega), f9 31 (by omega), vu_ne (by omega), f8 31 (by omega), vu_ne (by omega), f7 31 (by omega), vu_ne (by omega)]; exact c6.2.2 i hi
  · rw [g10 34 (by omega), vu_ne (by omega), g9 34 (by omega), vu_ne (by omega), g8 34 (by omega), vu_ne (by omega)]; exact c7.1
  · rw [vu_ne (by omega), f10 34 (by omega), vu_ne (by omega), f9 34 (by omega), vu_ne (by omega), f8 34 (by omega), vu_ne (by omega)]; exact c7.2.1
  · rw [vu_ne (by omega), f10 35 (by omega), vu_ne (by omega), f9 35 (by omega), vu_ne (by omega), f8 35 (by omega), vu_ne (by omega)]; exact c7.2.2 i hi
  · rw [vu_ne (by omega), f10 38 (by omega), vu_ne (by omega), f9 38 (by omega), vu_ne (by omega), c8, vu_eq]
  · rw [vu_ne (by omega), f10 46 (by omega), vu_ne (by omega), c9, vu_eq]
  · rw [vu_ne (by omega), c10, vu_eq]
theorem row_62 : va_up (va_up (va_up (va_up (va_up (va_up (va_up nR 5 (some 63)) 6 (some 64)) 7 (some 65)) 8 (some 66)) 9 (some 67)) 10 (some 68)) 11 (some 69) = RR 62 := by
  funext k
  rcases k with _ | _ | _ | _ | _ | _ | _ | _ | _ | _ | _ | _ | k
  all_goals rfl
theorem row_66 : va_up (va_up (va_up (va_up (va_up (va_up nR 0 (some 75)) 1 (some 79)) 2 (some 83)) 3 (some 87)) 4 (some 91)) 5 (some 95) = RR 66 := by
  funext k
  rcases k with _ | _ | _ | _ | _ | _ | k
  all_goals rfl
theorem row_67 : va_up (va_up (va_up nR 0 (some 99)) 1 (some 107)) 2 (some 115) = RR 67 := by
  funext k
  rcases k with _ | _ | _ | k
  all_goals rfl
theorem wo_62 {X : Nat × (Nat → Int32)} {d : Nat} {R : Nat → Nat → Option Nat} {I : Nat → Nat → Int32} {J : Nat → Nat → Int64} (hd : 6 ≤ d) (hR : R 62 = nR) : ∃ I' J', callF X d 105 [.ref 62] (mkS 63 R I J) = some (none, mkS 123 (fq R 62 123) I' J') ∧ (∀ a, a < 62 ∨ 123 ≤ a → I' a = I a) ∧ (∀ a, a < 62 ∨ 123 ≤ a → J' a = J a) ∧ I' 62 = I 62 := by
  obtain ⟨d, rfl⟩ : ∃ d', d = d' + 1 := ⟨d - 1, by omega⟩
  have q63 : RR 63 = nR := RR_nil rfl
  have q64 : RR 64 = nR := RR_nil rfl
  have q65 : RR 65 = nR := RR_nil rfl
  have q68 : RR 68 = nR := RR_nil rfl
  have s62 : SH 62 = (10, 12) := rfl
  have s63 : SH 63 = (20, 24) := rfl
  have s64 : SH 64 = (20, 24) := rfl
  have s65 : SH 65 = (21, 6) := rfl
  have s66 : SH 66 = (24, 6) := rfl
  have s67 : SH 67 = (23, 3) := rfl
  have s68 : SH 68 = (20, 576) := rfl
  have s69 : SH 69 = (1, 6) := rfl
  have s75 : SH 75 = (9, 5) := rfl
  have s79 : SH 79 = (9, 5) := rfl
  have s83 : SH 83 = (9, 5) := rfl
  have s87 : SH 87 = (9, 5) := rfl
  have s91 : SH 91 = (9, 5) := rfl
  have s95 : SH 95 = (9, 5) := rfl
  have s99 : SH 99 = (6, 10) := rfl
  have s107 : SH 107 = (6, 10) := rfl
  have s115 : SH 115 = (6, 10) := rfl
  obtain ⟨I1, J1, e1, f1, g1, c1⟩ := hi_69 (X := X) (d := d) (R := va_up (fw R 62 69 (va_up (va_up (va_up (va_up (va_up (va_up nR 5 (some 63)) 6 (some 64)) 7 (some 65)) 8 (some 66)) 9 (some 67)) 10 (some 68)) (nR) (nR)) 69 nR) (I := va_up (va_up (va_up (va_up (va_up (va_up (va_up I 63 zI) 64 zI) 65 zI) 66 zI) 67 zI) 68 zI) 69 zI) (J := va_up (va_up (va_up (va_up (va_up (va_up (va_up J 63 zJ) 64 zJ) 65 zJ) 66 zJ) 67 zJ) 68 zJ) 69 zJ) (by omega) vu_eq
  rw [fw_ch (by decide) (by decide)] at e1
  obtain ⟨I2, J2, e2, f2, g2, c2⟩ := wa_75 (X := X) (d := d) (R := va_up (fw R 62 75 (va_up (va_up (va_up (va_up (va_up (va_up (va_up nR 5 (some 63)) 6 (some 64)) 7 (some 65)) 8 (some 66)) 9 (some 67)) 10 (some 68)) 11 (some 69)) (nR) (nR)) 75 nR) (I := va_up I1 75 zI) (J := va_up J1 75 zJ) (by omega) vu_eq
  rw [fw_ch (by decide) (by decide)] at e2
  obtain ⟨I3, J3, e3, f3, g3, c3⟩ := wa_79 (X := X) (d := d) (R := va_up (fw R 62 79 (va_up (va_up (va_up (va_up (va_up (va_up (va_up nR 5 (some 63)) 6 (some 64)) 7 (some 65)) 8 (some 66)) 9 (some 67)) 10 (some 68)) 11 (some 69)) (va_up nR 0 (some 75)) (nR)) 79 nR) (I := va_up I2 79 zI) (J := va_up J2 79 zJ) (by omega) vu_eq
  rw [fw_ch (by decide) (by decide)] at e3
  obtain ⟨I4, J4, e4, f4, g4, c4⟩ := wa_83 (X := X) (d := d) (R := va_up (fw R 62 83 (va_up (va_up (va_up (va_up (va_up (va_up (va_up nR 5 (some 63)) 6 (some 64)) 7 (some 65)) 8 (some 66)) 9 (some 67)) 10 (some 68)) 11 (some 69)) (va_up (va_up nR 0 (some 75)) 1 (some 79)) (nR)) 83 nR) (I := va_up I3 83 zI) (J := va_up J3 83 zJ) (by omega) vu_eq
  rw [fw_ch (by decide) (by decide)] at e4
  obtain ⟨I5, J5, e5, f5, g5, c5⟩ := wa_87 (X := X) (d := d) (R := va_up (fw R 62 87 (va_up (va_up (va_up (va_up (va_up (va_up (va_up nR 5 (some 63)) 6 (some 64)) 7 (some 65)) 8 (some 66)) 9 (some 67)) 10 (some 68)) 11 (some 69)) (va_up (va_up (va_up nR 0 (some 75)) 1 (some 79)) 2 (some 83)) (nR)) 87 nR) (I := va_up I4 87 zI) (J := va_up J4 87 zJ) (by omega) vu_eq
  rw [fw_ch (by decide) (by decide)] at e5
  obtain ⟨I6, J6, e6, f6, g6, c6⟩ := wa_91 (X := X) (d := d) (R := va_up (fw R 62 91 (va_up (va_up (va_up (va_up (va_up (va_up (va_up nR 5 (some 63)) 6 (some 64)) 7 (some 65)) 8 (some 66)) 9 (some 67)) 10 (some 68)) 11 (some 69)) (va_up (va_up (va_up (va_up nR 0 (some 75)) 1 (some 79)) 2 (some 83)) 3 (some 87)) (nR)) 91 nR) (I := va_up I5 91 zI) (J := va_up J5 91 zJ) (by omega) vu_eq
  rw [fw_ch (by decide) (by decide)] at e6
  obtain ⟨I7, J7, e7, f7, g7, c7⟩ := wa_95 (X := X) (d := d) (R := va_up (fw R 62 95 (va_up (va_up (va_up (va_up (va_up (va_up (va_up nR 5 (some 63)) 6 (some 64)) 7 (some 65)) 8 (some 66)) 9 (some 67)) 10 (some 68)) 11 (some 69)) (va_up (va_up (va_up (va_up (va_up nR 0 (some 75)) 1 (some 79)) 2 (some 83)) 3 (some 87)) 4 (some 91)) (nR)) 95 nR) (I := va_up I6 95 zI) (J := va_up J6 95 zJ) (by omega) vu_eq
  rw [fw_ch (by decide) (by decide)] at e7
  obtain ⟨I8, J8, e8, f8, g8, c8⟩ := ru_99 (X := X) (d := d) (R := va_up (fw R 62 99 (va_up (va_up (va_up (va_up (va_up (va_up (va_up nR 5 (some 63)) 6 (some 64)) 7 (some 65)) 8 (some 66)) 9 (some 67)) 10 (some 68)) 11 (some 69)) (va_up (va_up (va_up (va_up (va_up (va_up nR 0 (some 75)) 1 (some 79)) 2 (some 83)) 3 (some 87)) 4 (some 91)) 5 (some 95)) (nR)) 99 nR) (I := va_up I7 99 zI) (J := va_up J7 99 zJ) (by omega) vu_eq
  rw [fw_ch (by decide) (by decide)] at e8
  obtain ⟨I9, J9, e9, f9, g9, c9⟩ := ru_107 (X := X) (d := d) (R := va_up (fw R 62 107 (va_up (va_up (va_up (va_up (va_up (va_up (va_up nR 5 (some 63)) 6 (some 64)) 7 (some 65)) 8 (some 66)) 9 (some 67)) 10 (some 68)) 11 (some 69)) (va_up (va_up (va_up (va_up (va_up (va_up nR 0 (some 75)) 1 (some 79)) 2 (some 83)) 3 (some 87)) 4 (some 91)) 5 (some 95)) (va_up nR 0 (some 99))) 107 nR) (I := va_up I8 107 zI) (J := va_up J8 107 zJ) (by omega) vu_eq
  rw [fw_ch (by decide) (by decide)] at e9
  obtain ⟨I10, J10, e10, f10, g10, c10⟩ := ru_115 (X := X) (d := d) (R := va_up (fw R 62 115 (va_up (va_up (va_up (va_up (va_up (va_up (va_up nR 5 (some 63)) 6 (some 64)) 7 (some 65)) 8 (some 66)) 9 (some 67)) 10 (some 68)) 11 (some 69)) (va_up (va_up (va_up (va_up (va_up (va_up nR 0 (some 75)) 1 (some 79)) 2 (some 83)) 3 (some 87)) 4 (some 91)) 5 (some 95)) (va_up (va_up nR 0 (some 99)) 1 (some 107))) 115 nR) (I := va_up I9 115 zI) (J := va_up J9 115 zJ) (by omega) vu_eq
  rw [fw_ch (by decide) (by decide)] at e10
  have ef : fw R 62 123 (va_up (va_up (va_up (va_up (va_up (va_up (va_up nR 5 (some 63)) 6 (some 64)) 7 (some 65)) 8 (some 66)) 9 (some 67)) 10 (some 68)) 11 (some 69)) (va_up (va_up (va_up (va_up (va_up (va_up nR 0 (some 75)) 1 (some 79)) 2 (some 83)) 3 (some 87)) 4 (some 91)) 5 (some 95)) (va_up (va_up (va_up nR 0 (some 99)) 1 (some 107)) 2 (some 115)) = fq R 62 123 := fw_fq row_62 row_66 row_67 (by decide)
  have fl := s_fill (X := X) (d := d) (M := mkS 123 (fw R 62 123 (va_up (va_up (va_up (va_up (va_up (va_up (va_up nR 5 (some 63)) 6 (some 64)) 7 (some 65)) 8 (some 66)) 9 (some 67)) 10 (some 68)) 11 (some 69)) (va_up (va_up (va_up (va_up (va_up (va_up nR 0 (some 75)) 1 (some 79)) 2 (some 83)) 3 (some 87)) 4 (some 91)) 5 (some 95)) (va_up (va_up (va_up nR 0 (some 99)) 1 (some 107)) 2 (some 115))) I10 J10) (a := 68) (n := 576) (v := -1) (by omega) rfl (by decide)
  rw [S_I, S_rI] at fl
  refine ⟨va_up I10 68 (fillI 576 (-1) (I10 68)), J10, ?_, fun a ha => ?_, fun a ha => ?_, ?_⟩
  · rw [← ef, show mkS 63 R I J = mkS 63 (fw R 62 63 nR (R (62 + 4)) (R (62 + 5))) I J from congrArg (fun z => mkS 63 z I J) (fwb_0 hR)]
    refine callF_of (by decide) (Nat.le_of_ble_eq_true rfl) ?_
    show Ev X d 105 0 [.ref 62, .retAddr 0] [] ( mkS 63 (fw R 62 63 nR (R (62 + 4)) (R (62 + 5))) I J) _
    simp (disch := first | omega | assumption | exact rfl) only [U_105_0, U_105_1, U_105_2, U_105_3, U_105_4, U_105_5, U_105_6, XX, QQ, WW, KK, QX, SHs, RRs, Nat.reduceAdd, Nat.reduceMul, Nat.reduceLeDiff, Nat.reduceEqDiff, List.length_cons, List.length_nil, decide_true, decide_false, Bool.true_and, Bool.and_true, Bool.false_and, Bool.and_false, false_and, and_false, Bool.false_eq_true, Bool.true_eq_false, reduceCtorEq, eq_self, if_true, if_false, true_and, and_true, not_true_eq_false, not_false_eq_true, if_pos, if_neg, z_ite_not, false_or, or_false, true_or, or_true, SWs, swk_0, swk_1, SSs, FWs, e1, e2, e3, e4, e5, e6, e7, e8, e9, e10, fl]
  · rw [vu_ne (by omega), f10 a (by omega), vu_ne (by omega), f9 a (by omega), vu_ne (by omega), f8 a (by omega), vu_ne (by omega), f7 a (by omega), vu_ne (by omega), f6 a (by omega), vu_ne (by omega), f5 a (by omega), vu_ne (by omega), f4 a (by omega), vu_ne (by omega), f3 a (by omega), vu_ne (by omega), f2 a (by omega), vu_ne (by omega), f1 a (by omega), vu_ne (by omega), vu_ne (by omega), vu_ne (by omega), vu_ne (by omega), vu_ne (by omega), vu_ne (by omega), vu_ne (by omega)]
  · rw [g10 a (by omega), vu_ne (by omega), g9 a (by omega), vu_ne (by omega), g8 a (by omega), vu_ne (by omega), g7 a (by omega), vu_ne (by omega), g6 a (by omega), vu_ne (by omega), g5 a (by omega), vu_ne (by omega), g4 a (by omega), vu_ne (by omega), g3 a (by omega), vu_ne (by omega), g2 a (by omega), vu_ne (by omega), g1 a (by omega), vu_ne (by omega), vu_ne (by omega), vu_ne (by omega), vu_ne (by omega), vu_ne (by omega), vu_ne (by omega), vu_ne (by omega)]
  · rw [vu_ne (by omega), f10 62 (by omega), vu_ne (by omega), f9 62 (by omega), vu_ne (by omega), f8 62 (by omega), vu_ne (by omega), f7 62 (by omega), vu_ne (by omega), f6 62 (by omega), vu_ne (by omega), f5 62 (by omega), vu_ne (by omega), f4 62 (by omega), vu_ne (by omega), f3 62 (by omega), vu_ne (by omega), f2 62 (by omega), vu_ne (by omega), f1 62 (by omega), vu_ne (by omega), vu_ne (by omega), vu_ne (by omega), vu_ne (by omega), vu_ne (by omega), vu_ne (by omega), vu_ne (by omega)]
