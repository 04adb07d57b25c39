/-! ===== constructors: the reader (gen81.py) ===== -/
theorem row_124 : va_up (va_up nR 0 (some 125)) 4 (some 129) = RR 124 := by
  funext k
  rcases k with _ | _ | _ | _ | _ | k
  all_goals rfl
theorem re_124 {X : Nat × (Nat → Int32)} {d : Nat} {R : Nat → Nat → Option Nat} {I : Nat → Nat → Int32} {J : Nat → Nat → Int64} (hd : 2 ≤ d) (hR : R 124 = nR) : ∃ I' J', callF X d 49 [.ref 124] (mkS 125 R I J) = some (none, mkS 137 (fq R 124 137) I' J') ∧ (∀ a, a < 124 ∨ 137 ≤ a → I' a = I a) ∧ (∀ a, a < 124 ∨ 137 ≤ a → J' a = J a) ∧ I' 124 1 = I 124 1 ∧ I' 124 2 = -1 := by
  obtain ⟨d, rfl⟩ : ∃ d', d = d' + 1 := ⟨d - 1, by omega⟩
  have s124 : SH 124 = (5, 5) := rfl
  have s125 : SH 125 = (8, 8) := rfl
  have s129 : SH 129 = (6, 10) := rfl
  obtain ⟨I1, J1, e1, f1, g1, c1⟩ := to_125 (X := X) (d := d) (R := va_up (fr R 124 125 nR) 125 nR) (I := va_up I 125 zI) (J := va_up J 125 zJ) (by omega) vu_eq
  rw [fr_ch (by decide) (by decide)] at e1
  obtain ⟨I2, J2, e2, f2, g2, c2⟩ := ru_129 (X := X) (d := d) (R := va_up (fr R 124 129 (va_up nR 0 (some 125))) 129 nR) (I := va_up (va_up I1 124 (va_up (I1 124) 2 (-1))) 129 zI) (J := va_up J1 129 zJ) (by omega) vu_eq
  rw [fr_ch (by decide) (by decide)] at e2
  have ef : fr R 124 137 (va_up (va_up nR 0 (some 125)) 4 (some 129)) = fq R 124 137 := fr_fq row_124 (by decide)
  refine ⟨I2, J2, ?_, fun a ha => ?_, fun a ha => ?_, ?_, ?_⟩
  · rw [← ef, show mkS 125 R I J = mkS 125 (fr R 124 125 nR) I J from congrArg (fun z => mkS 125 z I J) (fr_0 hR)]
    refine callF_of (by decide) (Nat.le_of_ble_eq_true rfl) ?_
    show Ev X d 49 0 [.ref 124] [] ( mkS 125 (fr R 124 125 nR) I J) _
    simp (disch := first | omega | assumption | exact rfl) only [U_49_0, XX, QQ, WW, KK, QX, SHs, RRs, Nat.reduceAdd, Nat.reduceMul, Nat.reduceLeDiff, Nat.reduceEqDiff, List.length_cons, List.length_nil, decide_true, decide_false, Bool.true_and, Bool.and_true, Bool.false_and, Bool.and_false, false_and, and_false, Bool.false_eq_true, Bool.true_eq_false, reduceCtorEq, eq_self, if_true, if_false, true_and, and_true, not_true_eq_false, not_false_eq_true, if_pos, if_neg, z_ite_not, false_or, or_false, true_or, or_true, SWs, swk_0, swk_1, SSs, FRs, e1, e2]
  · rw [f2 a (by omega), vu_ne (by omega), vu_ne (by omega), f1 a (by omega), vu_ne (by omega)]
  · rw [g2 a (by omega), vu_ne (by omega), g1 a (by omega), vu_ne (by omega)]
  · rw [f2 124 (by omega), vu_ne (by omega), vu_eq, vu_ne (by omega), f1 124 (by omega), vu_ne (by omega)]
  · rw [f2 124 (by omega), vu_ne (by omega), vu_eq, vu_eq]
