/-! ===== constructors: builder, layings (gen81.py) ===== -/
theorem row_140 : va_up (va_up (va_up (va_up (va_up (va_up (va_up (va_up (va_up nR 0 (some 141)) 1 (some 145)) 2 (some 149)) 3 (some 152)) 5 (some 153)) 6 (some 154)) 7 (some 155)) 8 (some 156)) 9 (some 157) = RR 140 := by
  funext k
  rcases k with _ | _ | _ | _ | _ | _ | _ | _ | _ | _ | k
  all_goals rfl
theorem bu_140 {X : Nat × (Nat → Int32)} {d : Nat} {R : Nat → Nat → Option Nat} {I : Nat → Nat → Int32} {J : Nat → Nat → Int64} (hd : 6 ≤ d) (hR : R 140 = nR) : ∃ I' J', callF X d 11 [.ref 140] (mkS 141 R I J) = some (none, mkS 158 (fq R 140 158) I' J') ∧ (∀ a, a < 140 ∨ 158 ≤ a → I' a = I a) ∧ (∀ a, a < 140 ∨ 158 ≤ a → J' a = J a) ∧ I' 140 = I 140 := by
  obtain ⟨d, rfl⟩ : ∃ d', d = d' + 1 := ⟨d - 1, by omega⟩
  have q152 : RR 152 = nR := RR_nil rfl
  have q153 : RR 153 = nR := RR_nil rfl
  have q154 : RR 154 = nR := RR_nil rfl
  have q155 : RR 155 = nR := RR_nil rfl
  have q156 : RR 156 = nR := RR_nil rfl
  have q157 : RR 157 = nR := RR_nil rfl
  have s140 : SH 140 = (0, 10) := rfl
  have s141 : SH 141 = (9, 5) := rfl
  have s145 : SH 145 = (9, 5) := rfl
  have s149 : SH 149 = (3, 6) := rfl
  have s152 : SH 152 = (20, 24) := rfl
  have s153 : SH 153 = (20, 12) := rfl
  have s154 : SH 154 = (20, 12) := rfl
  have s155 : SH 155 = (20, 12) := rfl
  have s156 : SH 156 = (20, 12) := rfl
  have s157 : SH 157 = (20, 24) := rfl
  obtain ⟨I1, J1, e1, f1, g1, c1⟩ := wa_141 (X := X) (d := d) (R := va_up (fr R 140 141 (nR)) 141 nR) (I := va_up I 141 zI) (J := va_up J 141 zJ) (by omega) vu_eq
  rw [fr_ch (by decide) (by decide)] at e1
  obtain ⟨I2, J2, e2, f2, g2, c2⟩ := wa_145 (X := X) (d := d) (R := va_up (fr R 140 145 (va_up nR 0 (some 141))) 145 nR) (I := va_up I1 145 zI) (J := va_up J1 145 zJ) (by omega) vu_eq
  rw [fr_ch (by decide) (by decide)] at e2
  obtain ⟨I3, J3, e3, f3, g3, c3⟩ := ne_149 (X := X) (d := d) (R := va_up (fr R 140 149 (va_up (va_up nR 0 (some 141)) 1 (some 145))) 149 nR) (I := va_up I2 149 zI) (J := va_up J2 149 zJ) (by omega) vu_eq
  rw [fr_ch (by decide) (by decide)] at e3
  have ef : fr R 140 158 (va_up (va_up (va_up (va_up (va_up (va_up (va_up (va_up (va_up nR 0 (some 141)) 1 (some 145)) 2 (some 149)) 3 (some 152)) 5 (some 153)) 6 (some 154)) 7 (some 155)) 8 (some 156)) 9 (some 157)) = fq R 140 158 := fr_fq row_140 (by decide)
  refine ⟨va_up (va_up (va_up (va_up (va_up (va_up I3 152 zI) 153 zI) 154 zI) 155 zI) 156 zI) 157 zI, va_up (va_up (va_up (va_up (va_up (va_up J3 152 zJ) 153 zJ) 154 zJ) 155 zJ) 156 zJ) 157 zJ, ?_, fun a ha => ?_, fun a ha => ?_, ?_⟩
  · rw [← ef, show mkS 141 R I J = mkS 141 (fr R 140 141 nR) I J from congrArg (fun z => mkS 141 z I J) (fr_0 hR)]
    refine callF_of (by decide) (Nat.le_of_ble_eq_true rfl) ?_
    show Ev X d 11 0 [.ref 140] [] ( mkS 141 (fr R 140 141 nR) I J) _
    simp (disch := first | omega | assumption | exact rfl) only [U_11_0, XX, QQ, WW, KK, QX, SHs, RRs, Nat.reduceAdd, Nat.reduceMul, Nat.reduceLeDiff, Nat.reduceEqDiff, List.length_cons, List.length_nil, decide_true, decide_false, Bool.true_and, Bool.and_true, Bool.false_and, Bool.and_false, false_and, and_false, Bool.false_eq_true, Bool.true_eq_false, reduceCtorEq, eq_self, if_true, if_false, true_and, and_true, not_true_eq_false, not_false_eq_true, if_pos, if_neg, z_ite_not, false_or, or_false, true_or, or_true, SWs, swk_0, swk_1, SSs, FRs, e1, e2, e3]
  · rw [vu_ne (by omega), vu_ne (by omega), vu_ne (by omega), vu_ne (by omega), vu_ne (by omega), vu_ne (by omega), f3 a (by omega), vu_ne (by omega), f2 a (by omega), vu_ne (by omega), f1 a (by omega), vu_ne (by omega)]
  · rw [vu_ne (by omega), vu_ne (by omega), vu_ne (by omega), vu_ne (by omega), vu_ne (by omega), vu_ne (by omega), g3 a (by omega), vu_ne (by omega), g2 a (by omega), vu_ne (by omega), g1 a (by omega), vu_ne (by omega)]
  · rw [vu_ne (by omega), vu_ne (by omega), vu_ne (by omega), vu_ne (by omega), vu_ne (by omega), vu_ne (by omega), f3 140 (by omega), vu_ne (by omega), f2 140 (by omega), vu_ne (by omega), f1 140 (by omega), vu_ne (by omega)]
theorem row_161 : va_up (va_up (va_up (va_up nR 0 (some 162)) 1 (some 166)) 2 (some 169)) 3 (some 170) = RR 161 := by
  funext k
  rcases k with _ | _ | _ | _ | k
  all_goals rfl
theorem la_161 {X : Nat × (Nat → Int32)} {d : Nat} {R : Nat → Nat → Option Nat} {I : Nat → Nat → Int32} {J : Nat → Nat → Int64} (hd : 6 ≤ d) (hR : R 161 = nR) : ∃ I' J', callF X d 32 [.ref 161] (mkS 162 R I J) = some (none, mkS 171 (fq R 161 171) I' J') ∧ (∀ a, a < 161 ∨ 171 ≤ a → I' a = I a) ∧ (∀ a, a < 161 ∨ 171 ≤ a → J' a = J a) ∧ I' 161 = I 161 := by
  obtain ⟨d, rfl⟩ : ∃ d', d = d' + 1 := ⟨d - 1, by omega⟩
  have q169 : RR 169 = nR := RR_nil rfl
  have q170 : RR 170 = nR := RR_nil rfl
  have s161 : SH 161 = (2, 10) := rfl
  have s162 : SH 162 = (9, 5) := rfl
  have s166 : SH 166 = (3, 6) := rfl
  have s169 : SH 169 = (20, 7) := rfl
  have s170 : SH 170 = (20, 7) := rfl
  obtain ⟨I1, J1, e1, f1, g1, c1⟩ := wa_162 (X := X) (d := d) (R := va_up (fr R 161 162 (nR)) 162 nR) (I := va_up I 162 zI) (J := va_up J 162 zJ) (by omega) vu_eq
  rw [fr_ch (by decide) (by decide)] at e1
  obtain ⟨I2, J2, e2, f2, g2, c2⟩ := ne_166 (X := X) (d := d) (R := va_up (fr R 161 166 (va_up nR 0 (some 162))) 166 nR) (I := va_up I1 166 zI) (J := va_up J1 166 zJ) (by omega) vu_eq
  rw [fr_ch (by decide) (by decide)] at e2
  have ef : fr R 161 171 (va_up (va_up (va_up (va_up nR 0 (some 162)) 1 (some 166)) 2 (some 169)) 3 (some 170)) = fq R 161 171 := fr_fq row_161 (by decide)
  refine ⟨va_up (va_up I2 169 zI) 170 zI, va_up (va_up J2 169 zJ) 170 zJ, ?_, fun a ha => ?_, fun a ha => ?_, ?_⟩
  · rw [← ef, show mkS 162 R I J = mkS 162 (fr R 161 162 nR) I J from congrArg (fun z => mkS 162 z I J) (fr_0 hR)]
    refine callF_of (by decide) (Nat.le_of_ble_eq_true rfl) ?_
    show Ev X d 32 0 [.ref 161] [] ( mkS 162 (fr R 161 162 nR) I J) _
    simp (disch := first | omega | assumption | exact rfl) only [U_32_0, XX, QQ, WW, KK, QX, SHs, RRs, Nat.reduceAdd, Nat.reduceMul, Nat.reduceLeDiff, Nat.reduceEqDiff, List.length_cons, List.length_nil, decide_true, decide_false, Bool.true_and, Bool.and_true, Bool.false_and, Bool.and_false, false_and, and_false, Bool.false_eq_true, Bool.true_eq_false, reduceCtorEq, eq_self, if_true, if_false, true_and, and_true, not_true_eq_false, not_false_eq_true, if_pos, if_neg, z_ite_not, false_or, or_false, true_or, or_true, SWs, swk_0, swk_1, SSs, FRs, e1, e2]
  · rw [vu_ne (by omega), vu_ne (by omega), f2 a (by omega), vu_ne (by omega), f1 a (by omega), vu_ne (by omega)]
  · rw [vu_ne (by omega), vu_ne (by omega), g2 a (by omega), vu_ne (by omega), g1 a (by omega), vu_ne (by omega)]
  · rw [vu_ne (by omega), vu_ne (by omega), f2 161 (by omega), vu_ne (by omega), f1 161 (by omega), vu_ne (by omega)]
