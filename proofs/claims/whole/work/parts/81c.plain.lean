/-! ===== constructors: rules, histories, the small ones (gen81.py) ===== -/
theorem row_38 : va_up (va_up (va_up (va_up (va_up (va_up (va_up nR 1 (some 39)) 2 (some 40)) 3 (some 41)) 4 (some 42)) 6 (some 43)) 7 (some 44)) 8 (some 45) = RR 38 := by
  funext k
  rcases k with _ | _ | _ | _ | _ | _ | _ | _ | _ | k
  all_goals rfl
theorem ru_38 {X : Nat × (Nat → Int32)} {d : Nat} {R : Nat → Nat → Option Nat} {I : Nat → Nat → Int32} {J : Nat → Nat → Int64} (hd : 1 ≤ d) (hR : R 38 = nR) : ∃ I' J', callF X d 65 [.ref 38] (mkS 39 R I J) = some (none, mkS 46 (fq R 38 46) I' J') ∧ (∀ a, a < 38 ∨ 46 ≤ a → I' a = I a) ∧ (∀ a, a < 38 ∨ 46 ≤ a → J' a = J a) ∧ I' 38 = I 38 := by
  obtain ⟨d, rfl⟩ : ∃ d', d = d' + 1 := ⟨d - 1, by omega⟩
  have q39 : RR 39 = nR := RR_nil rfl
  have q40 : RR 40 = nR := RR_nil rfl
  have q41 : RR 41 = nR := RR_nil rfl
  have q42 : RR 42 = nR := RR_nil rfl
  have q43 : RR 43 = nR := RR_nil rfl
  have q44 : RR 44 = nR := RR_nil rfl
  have q45 : RR 45 = nR := RR_nil rfl
  have s38 : SH 38 = (6, 10) := rfl
  have s39 : SH 39 = (20, 16) := rfl
  have s40 : SH 40 = (20, 16) := rfl
  have s41 : SH 41 = (20, 16) := rfl
  have s42 : SH 42 = (20, 16) := rfl
  have s43 : SH 43 = (20, 400) := rfl
  have s44 : SH 44 = (20, 5) := rfl
  have s45 : SH 45 = (20, 32) := rfl
  have ef : fr R 38 46 (va_up (va_up (va_up (va_up (va_up (va_up (va_up nR 1 (some 39)) 2 (some 40)) 3 (some 41)) 4 (some 42)) 6 (some 43)) 7 (some 44)) 8 (some 45)) = fq R 38 46 := fr_fq row_38 (by decide)
  refine ⟨va_up (va_up (va_up (va_up (va_up (va_up (va_up I 39 zI) 40 zI) 41 zI) 42 zI) 43 zI) 44 zI) 45 zI, va_up (va_up (va_up (va_up (va_up (va_up (va_up J 39 zJ) 40 zJ) 41 zJ) 42 zJ) 43 zJ) 44 zJ) 45 zJ, ?_, fun a ha => ?_, fun a ha => ?_, ?_⟩
  · rw [← ef, show mkS 39 R I J = mkS 39 (fr R 38 39 nR) I J from congrArg (fun z => mkS 39 z I J) (fr_0 hR)]
    refine callF_of (by decide) (Nat.le_of_ble_eq_true rfl) ?_
    show Ev X d 65 0 [.ref 38] [] ( mkS 39 (fr R 38 39 nR) I J) _
    simp (disch := first | omega | assumption | exact rfl) only [U_65_0, XX, QQ, WW, KK, QX, SHs, RRs, Nat.reduceAdd, Nat.reduceMul, Nat.reduceLeDiff, Nat.reduceEqDiff, List.length_cons, List.length_nil, decide_true, decide_false, Bool.true_and, Bool.and_true, Bool.false_and, Bool.and_false, false_and, and_false, Bool.false_eq_true, Bool.true_eq_false, reduceCtorEq, eq_self, if_true, if_false, true_and, and_true, not_true_eq_false, not_false_eq_true, if_pos, if_neg, z_ite_not, false_or, or_false, true_or, or_true, SWs, swk_0, swk_1, SSs, FRs]
  · rw [vu_ne (by omega), vu_ne (by omega), vu_ne (by omega), vu_ne (by omega), vu_ne (by omega), vu_ne (by omega), vu_ne (by omega)]
  · rw [vu_ne (by omega), vu_ne (by omega), vu_ne (by omega), vu_ne (by omega), vu_ne (by omega), vu_ne (by omega), vu_ne (by omega)]
  · rw [vu_ne (by omega), vu_ne (by omega), vu_ne (by omega), vu_ne (by omega), vu_ne (by omega), vu_ne (by omega), vu_ne (by omega)]
theorem row_46 : va_up (va_up (va_up (va_up (va_up (va_up (va_up nR 1 (some 47)) 2 (some 48)) 3 (some 49)) 4 (some 50)) 6 (some 51)) 7 (some 52)) 8 (some 53) = RR 46 := by
  funext k
  rcases k with _ | _ | _ | _ | _ | _ | _ | _ | _ | k
  all_goals rfl
theorem ru_46 {X : Nat × (Nat → Int32)} {d : Nat} {R : Nat → Nat → Option Nat} {I : Nat → Nat → Int32} {J : Nat → Nat → Int64} (hd : 1 ≤ d) (hR : R 46 = nR) : ∃ I' J', callF X d 65 [.ref 46] (mkS 47 R I J) = some (none, mkS 54 (fq R 46 54) I' J') ∧ (∀ a, a < 46 ∨ 54 ≤ a → I' a = I a) ∧ (∀ a, a < 46 ∨ 54 ≤ a → J' a = J a) ∧ I' 46 = I 46 := by
  obtain ⟨d, rfl⟩ : ∃ d', d = d' + 1 := ⟨d - 1, by omega⟩
  have q47 : RR 47 = nR := RR_nil rfl
  have q48 : RR 48 = nR := RR_nil rfl
  have q49 : RR 49 = nR := RR_nil rfl
  have q50 : RR 50 = nR := RR_nil rfl
  have q51 : RR 51 = nR := RR_nil rfl
  have q52 : RR 52 = nR := RR_nil rfl
  have q53 : RR 53 = nR := RR_nil rfl
  have s46 : SH 46 = (6, 10) := rfl
  have s47 : SH 47 = (20, 16) := rfl
  have s48 : SH 48 = (20, 16) := rfl
  have s49 : SH 49 = (20, 16) := rfl
  have s50 : SH 50 = (20, 16) := rfl
  have s51 : SH 51 = (20, 400) := rfl
  have s52 : SH 52 = (20, 5) := rfl
  have s53 : SH 53 = (20, 32) := rfl
  have ef : fr R 46 54 (va_up (va_up (va_up (va_up (va_up (va_up (va_up nR 1 (some 47)) 2 (some 48)) 3 (some 49)) 4 (some 50)) 6 (some 51)) 7 (some 52)) 8 (some 53)) = fq R 46 54 := fr_fq row_46 (by decide)
  refine ⟨va_up (va_up (va_up (va_up (va_up (va_up (va_up I 47 zI) 48 zI) 49 zI) 50 zI) 51 zI) 52 zI) 53 zI, va_up (va_up (va_up (va_up (va_up (va_up (va_up J 47 zJ) 48 zJ) 49 zJ) 50 zJ) 51 zJ) 52 zJ) 53 zJ, ?_, fun a ha => ?_, fun a ha => ?_, ?_⟩
  · rw [← ef, show mkS 47 R I J = mkS 47 (fr R 46 47 nR) I J from congrArg (fun z => mkS 47 z I J) (fr_0 hR)]
    refine callF_of (by decide) (Nat.le_of_ble_eq_true rfl) ?_
    show Ev X d 65 0 [.ref 46] [] ( mkS 47 (fr R 46 47 nR) I J) _
    simp (disch := first | omega | assumption | exact rfl) only [U_65_0, XX, QQ, WW, KK, QX, SHs, RRs, Nat.reduceAdd, Nat.reduceMul, Nat.reduceLeDiff, Nat.reduceEqDiff, List.length_cons, List.length_nil, decide_true, decide_false, Bool.true_and, Bool.and_true, Bool.false_and, Bool.and_false, false_and, and_false, Bool.false_eq_true, Bool.true_eq_false, reduceCtorEq, eq_self, if_true, if_false, true_and, and_true, not_true_eq_false, not_false_eq_true, if_pos, if_neg, z_ite_not, false_or, or_false, true_or, or_true, SWs, swk_0, swk_1, SSs, FRs]
  · rw [vu_ne (by omega), vu_ne (by omega), vu_ne (by omega), vu_ne (by omega), vu_ne (by omega), vu_ne (by omega), vu_ne (by omega)]
  · rw [vu_ne (by omega), vu_ne (by omega), vu_ne (by omega), vu_ne (by omega), vu_ne (by omega), vu_ne (by omega), vu_ne (by omega)]
  · rw [vu_ne (by omega), vu_ne (by omega), vu_ne (by omega), vu_ne (by omega), vu_ne (by omega), vu_ne (by omega), vu_ne (by omega)]
theorem row_54 : va_up (va_up (va_up (va_up (va_up (va_up (va_up nR 1 (some 55)) 2 (some 56)) 3 (some 57)) 4 (some 58)) 6 (some 59)) 7 (some 60)) 8 (some 61) = RR 54 := by
  funext k
  rcases k with _ | _ | _ | _ | _ | _ | _ | _ | _ | k
  all_goals rfl
theorem ru_54 {X : Nat × (Nat → Int32)} {d : Nat} {R : Nat → Nat → Option Nat} {I : Nat → Nat → Int32} {J : Nat → Nat → Int64} (hd : 1 ≤ d) (hR : R 54 = nR) : ∃ I' J', callF X d 65 [.ref 54] (mkS 55 R I J) = some (none, mkS 62 (fq R 54 62) I' J') ∧ (∀ a, a < 54 ∨ 62 ≤ a → I' a = I a) ∧ (∀ a, a < 54 ∨ 62 ≤ a → J' a = J a) ∧ I' 54 = I 54 := by
  obtain ⟨d, rfl⟩ : ∃ d', d = d' + 1 := ⟨d - 1, by omega⟩
  have q55 : RR 55 = nR := RR_nil rfl
  have q56 : RR 56 = nR := RR_nil rfl
  have q57 : RR 57 = nR := RR_nil rfl
  have q58 : RR 58 = nR := RR_nil rfl
  have q59 : RR 59 = nR := RR_nil rfl
  have q60 : RR 60 = nR := RR_nil rfl
  have q61 : RR 61 = nR := RR_nil rfl
  have s54 : SH 54 = (6, 10) := rfl
  have s55 : SH 55 = (20, 16) := rfl
  have s56 : SH 56 = (20, 16) := rfl
  have s57 : SH 57 = (20, 16) := rfl
  have s58 : SH 58 = (20, 16) := rfl
  have s59 : SH 59 = (20, 400) := rfl
  have s60 : SH 60 = (20, 5) := rfl
  have s61 : SH 61 = (20, 32) := rfl
  have ef : fr R 54 62 (va_up (va_up (va_up (va_up (va_up (va_up (va_up nR 1 (some 55)) 2 (some 56)) 3 (some 57)) 4 (some 58)) 6 (some 59)) 7 (some 60)) 8 (some 61)) = fq R 54 62 := fr_fq row_54 (by decide)
  refine ⟨va_up (va_up (va_up (va_up (va_up (va_up (va_up I 55 zI) 56 zI) 57 zI) 58 zI) 59 zI) 60 zI) 61 zI, va_up (va_up (va_up (va_up (va_up (va_up (va_up J 55 zJ) 56 zJ) 57 zJ) 58 zJ) 59 zJ) 60 zJ) 61 zJ, ?_, fun a ha => ?_, fun a ha => ?_, ?_⟩
  · rw [← ef, show mkS 55 R I J = mkS 55 (fr R 54 55 nR) I J from congrArg (fun z => mkS 55 z I J) (fr_0 hR)]
    refine callF_of (by decide) (Nat.le_of_ble_eq_true rfl) ?_
    show Ev X d 65 0 [.ref 54] [] ( mkS 55 (fr R 54 55 nR) I J) _
    simp (disch := first | omega | assumption | exact rfl) only [U_65_0, XX, QQ, WW, KK, QX, SHs, RRs, Nat.reduceAdd, Nat.reduceMul, Nat.reduceLeDiff, Nat.reduceEqDiff, List.length_cons, List.length_nil, decide_true, decide_false, Bool.true_and, Bool.and_true, Bool.false_and, Bool.and_false, false_and, and_false, Bool.false_eq_true, Bool.true_eq_false, reduceCtorEq, eq_self, if_true, if_false, true_and, and_true, not_true_eq_false, not_false_eq_true, if_pos, if_neg, z_ite_not, false_or, or_false, true_or, or_true, SWs, swk_0, swk_1, SSs, FRs]
  · rw [vu_ne (by omega), vu_ne (by omega), vu_ne (by omega), vu_ne (by omega), vu_ne (by omega), vu_ne (by omega), vu_ne (by omega)]
  · rw [vu_ne (by omega), vu_ne (by omega), vu_ne (by omega), vu_ne (by omega), vu_ne (by omega), vu_ne (by omega), vu_ne (by omega)]
  · rw [vu_ne (by omega), vu_ne (by omega), vu_ne (by omega), vu_ne (by omega), vu_ne (by omega), vu_ne (by omega), vu_ne (by omega)]
theorem row_99 : va_up (va_up (va_up (va_up (va_up (va_up (va_up nR 1 (some 100)) 2 (some 101)) 3 (some 102)) 4 (some 103)) 6 (some 104)) 7 (some 105)) 8 (some 106) = RR 99 := by
  funext k
  rcases k with _ | _ | _ | _ | _ | _ | _ | _ | _ | k
  all_goals rfl
theorem ru_99 {X : Nat × (Nat → Int32)} {d : Nat} {R : Nat → Nat → Option Nat} {I : Nat → Nat → Int32} {J : Nat → Nat → Int64} (hd : 1 ≤ d) (hR : R 99 = nR) : ∃ I' J', callF X d 65 [.ref 99] (mkS 100 R I J) = some (none, mkS 107 (fq R 99 107) I' J') ∧ (∀ a, a < 99 ∨ 107 ≤ a → I' a = I a) ∧ (∀ a, a < 99 ∨ 107 ≤ a → J' a = J a) ∧ I' 99 = I 99 := by
  obtain ⟨d, rfl⟩ : ∃ d', d = d' + 1 := ⟨d - 1, by omega⟩
  have q100 : RR 100 = nR := RR_nil rfl
  have q101 : RR 101 = nR := RR_nil rfl
  have q102 : RR 102 = nR := RR_nil rfl
  have q103 : RR 103 = nR := RR_nil rfl
  have q104 : RR 104 = nR := RR_nil rfl
  have q105 : RR 105 = nR := RR_nil rfl
  have q106 : RR 106 = nR := RR_nil rfl
  have s99 : SH 99 = (6, 10) := rfl
  have s100 : SH 100 = (20, 16) := rfl
  have s101 : SH 101 = (20, 16) := rfl
  have s102 : SH 102 = (20, 16) := rfl
  have s103 : SH 103 = (20, 16) := rfl
  have s104 : SH 104 = (20, 400) := rfl
  have s105 : SH 105 = (20, 5) := rfl
  have s106 : SH 106 = (20, 32) := rfl
  have ef : fr R 99 107 (va_up (va_up (va_up (va_up (va_up (va_up (va_up nR 1 (some 100)) 2 (some 101)) 3 (some 102)) 4 (some 103)) 6 (some 104)) 7 (some 105)) 8 (some 106)) = fq R 99 107 := fr_fq row_99 (by decide)
  refine ⟨va_up (va_up (va_up (va_up (va_up (va_up (va_up I 100 zI) 101 zI) 102 zI) 103 zI) 104 zI) 105 zI) 106 zI, va_up (va_up (va_up (va_up (va_up (va_up (va_up J 100 zJ) 101 zJ) 102 zJ) 103 zJ) 104 zJ) 105 zJ) 106 zJ, ?_, fun a ha => ?_, fun a ha => ?_, ?_⟩
  · rw [← ef, show mkS 100 R I J = mkS 100 (fr R 99 100 nR) I J from congrArg (fun z => mkS 100 z I J) (fr_0 hR)]
    refine callF_of (by decide) (Nat.le_of_ble_eq_true rfl) ?_
    show Ev X d 65 0 [.ref 99] [] ( mkS 100 (fr R 99 100 nR) I J) _
    simp (disch := first | omega | assumption | exact rfl) only [U_65_0, XX, QQ, WW, KK, QX, SHs, RRs, Nat.reduceAdd, Nat.reduceMul, Nat.reduceLeDiff, Nat.reduceEqDiff, List.length_cons, List.length_nil, decide_true, decide_false, Bool.true_and, Bool.and_true, Bool.false_and, Bool.and_false, false_and, and_false, Bool.false_eq_true, Bool.true_eq_false, reduceCtorEq, eq_self, if_true, if_false, true_and, and_true, not_true_eq_false, not_false_eq_true, if_pos, if_neg, z_ite_not, false_or, or_false, true_or, or_true, SWs, swk_0, swk_1, SSs, FRs]
  · rw [vu_ne (by omega), vu_ne (by omega), vu_ne (by omega), vu_ne (by omega), vu_ne (by omega), vu_ne (by omega), vu_ne (by omega)]
  · rw [vu_ne (by omega), vu_ne (by omega), vu_ne (by omega), vu_ne (by omega), vu_ne (by omega), vu_ne (by omega), vu_ne (by omega)]
  · rw [vu_ne (by omega), vu_ne (by omega), vu_ne (by omega), vu_ne (by omega), vu_ne (by omega), vu_ne (by omega), vu_ne (by omega)]
theorem row_107 : va_up (va_up (va_up (va_up (va_up (va_up (va_up nR 1 (some 108)) 2 (some 109)) 3 (some 110)) 4 (some 111)) 6 (some 112)) 7 (some 113)) 8 (some 114) = RR 107 := by
  funext k
  rcases k with _ | _ | _ | _ | _ | _ | _ | _ | _ | k
  all_goals rfl
theorem ru_107 {X : Nat × (Nat → Int32)} {d : Nat} {R : Nat → Nat → Option Nat} {I : Nat → Nat → Int32} {J : Nat → Nat → Int64} (hd : 1 ≤ d) (hR : R 107 = nR) : ∃ I' J', callF X d 65 [.ref 107] (mkS 108 R I J) = some (none, mkS 115 (fq R 107 115) I' J') ∧ (∀ a, a < 107 ∨ 115 ≤ a → I' a = I a) ∧ (∀ a, a < 107 ∨ 115 ≤ a → J' a = J a) ∧ I' 107 = I 107 := by
  obtain ⟨d, rfl⟩ : ∃ d', d = d' + 1 := ⟨d - 1, by omega⟩
  have q108 : RR 108 = nR := RR_nil rfl
  have q109 : RR 109 = nR := RR_nil rfl
  have q110 : RR 110 = nR := RR_nil rfl
  have q111 : RR 111 = nR := RR_nil rfl
  have q112 : RR 112 = nR := RR_nil rfl
  have q113 : RR 113 = nR := RR_nil rfl
  have q114 : RR 114 = nR := RR_nil rfl
  have s107 : SH 107 = (6, 10) := rfl
  have s108 : SH 108 = (20, 16) := rfl
  have s109 : SH 109 = (20, 16) := rfl
  have s110 : SH 110 = (20, 16) := rfl
  have s111 : SH 111 = (20, 16) := rfl
  have s112 : SH 112 = (20, 400) := rfl
  have s113 : SH 113 = (20, 5) := rfl
  have s114 : SH 114 = (20, 32) := rfl
  have ef : fr R 107 115 (va_up (va_up (va_up (va_up (va_up (va_up (va_up nR 1 (some 108)) 2 (some 109)) 3 (some 110)) 4 (some 111)) 6 (some 112)) 7 (some 113)) 8 (some 114)) = fq R 107 115 := fr_fq row_107 (by decide)
  refine ⟨va_up (va_up (va_up (va_up (va_up (va_up (va_up I 108 zI) 109 zI) 110 zI) 111 zI) 112 zI) 113 zI) 114 zI, va_up (va_up (va_up (va_up (va_up (va_up (va_up J 108 zJ) 109 zJ) 110 zJ) 111 zJ) 112 zJ) 113 zJ) 114 zJ, ?_, fun a ha => ?_, fun a ha => ?_, ?_⟩
  · rw [← ef, show mkS 108 R I J = mkS 108 (fr R 107 108 nR) I J from congrArg (fun z => mkS 108 z I J) (fr_0 hR)]
    refine callF_of (by decide) (Nat.le_of_ble_eq_true rfl) ?_
    show Ev X d 65 0 [.ref 107] [] ( mkS 108 (fr R 107 108 nR) I J) _
    simp (disch := first | omega | assumption | exact rfl) only [U_65_0, XX, QQ, WW, KK, QX, SHs, RRs, Nat.reduceAdd, Nat.reduceMul, Nat.reduceLeDiff, Nat.reduceEqDiff, List.length_cons, List.length_nil, decide_true, decide_false, Bool.true_and, Bool.and_true, Bool.false_and, Bool.and_false, false_and, and_false, Bool.false_eq_true, Bool.true_eq_false, reduceCtorEq, eq_self, if_true, if_false, true_and, and_true, not_true_eq_false, not_false_eq_true, if_pos, if_neg, z_ite_not, false_or, or_false, true_or, or_true, SWs, swk_0, swk_1, SSs, FRs]
  · rw [vu_ne (by omega), vu_ne (by omega), vu_ne (by omega), vu_ne (by omega), vu_ne (by omega), vu_ne (by omega), vu_ne (by omega)]
  · rw [vu_ne (by omega), vu_ne (by omega), vu_ne (by omega), vu_ne (by omega), vu_ne (by omega), vu_ne (by omega), vu_ne (by omega)]
  · rw [vu_ne (by omega), vu_ne (by omega), vu_ne (by omega), vu_ne (by omega), vu_ne (by omega), vu_ne (by omega), vu_ne (by omega)]
theorem row_115 : va_up (va_up (va_up (va_up (va_up (va_up (va_up nR 1 (some 116)) 2 (some 117)) 3 (some 118)) 4 (some 119)) 6 (some 120)) 7 (some 121)) 8 (some 122) = RR 115 := by
  funext k
  rcases k with _ | _ | _ | _ | _ | _ | _ | _ | _ | k
  all_goals rfl
theorem ru_115 {X : Nat × (Nat → Int32)} {d : Nat} {R : Nat → Nat → Option Nat} {I : Nat → Nat → Int32} {J : Nat → Nat → Int64} (hd : 1 ≤ d) (hR : R 115 = nR) : ∃ I' J', callF X d 65 [.ref 115] (mkS 116 R I J) = some (none, mkS 123 (fq R 115 123) I' J') ∧ (∀ a, a < 115 ∨ 123 ≤ a → I' a = I a) ∧ (∀ a, a < 115 ∨ 123 ≤ a → J' a = J a) ∧ I' 115 = I 115 := by
  obtain ⟨d, rfl⟩ : ∃ d', d = d' + 1 := ⟨d - 1, by omega⟩
  have q116 : RR 116 = nR := RR_nil rfl
  have q117 : RR 117 = nR := RR_nil rfl
  have q118 : RR 118 = nR := RR_nil rfl
  have q119 : RR 119 = nR := RR_nil rfl
  have q120 : RR 120 = nR := RR_nil rfl
  have q121 : RR 121 = nR := RR_nil rfl
  have q122 : RR 122 = nR := RR_nil rfl
  have s115 : SH 115 = (6, 10) := rfl
  have s116 : SH 116 = (20, 16) := rfl
  have s117 : SH 117 = (20, 16) := rfl
  have s118 : SH 118 = (20, 16) := rfl
  have s119 : SH 119 = (20, 16) := rfl
  have s120 : SH 120 = (20, 400) := rfl
  have s121 : SH 121 = (20, 5) := rfl
  have s122 : SH 122 = (20, 32) := rfl
  have ef : fr R 115 123 (va_up (va_up (va_up (va_up (va_up (va_up (va_up nR 1 (some 116)) 2 (some 117)) 3 (some 118)) 4 (some 119)) 6 (some 120)) 7 (some 121)) 8 (some 122)) = fq R 115 123 := fr_fq row_115 (by decide)
  refine ⟨va_up (va_up (va_up (va_up (va_up (va_up (va_up I 116 zI) 117 zI) 118 zI) 119 zI) 120 zI) 121 zI) 122 zI, va_up (va_up (va_up (va_up (va_up (va_up (va_up J 116 zJ) 117 zJ) 118 zJ) 119 zJ) 120 zJ) 121 zJ) 122 zJ, ?_, fun a ha => ?_, fun a ha => ?_, ?_⟩
  · rw [← ef, show mkS 116 R I J = mkS 116 (fr R 115 116 nR) I J from congrArg (fun z => mkS 116 z I J) (fr_0 hR)]
    refine callF_of (by decide) (Nat.le_of_ble_eq_true rfl) ?_
    show Ev X d 65 0 [.ref 115] [] ( mkS 116 (fr R 115 116 nR) I J) _
    simp (disch := first | omega | assumption | exact rfl) only [U_65_0, XX, QQ, WW, KK, QX, SHs, RRs, Nat.reduceAdd, Nat.reduceMul, Nat.reduceLeDiff, Nat.reduceEqDiff, List.length_cons, List.length_nil, decide_true, decide_false, Bool.true_and, Bool.and_true, Bool.false_and, Bool.and_false, false_and, and_false, Bool.false_eq_true, Bool.true_eq_false, reduceCtorEq, eq_self, if_true, if_false, true_and, and_true, not_true_eq_false, not_false_eq_true, if_pos, if_neg, z_ite_not, false_or, or_false, true_or, or_true, SWs, swk_0, swk_1, SSs, FRs]
  · rw [vu_ne (by omega), vu_ne (by omega), vu_ne (by omega), vu_ne (by omega), vu_ne (by omega), vu_ne (by omega), vu_ne (by omega)]
  · rw [vu_ne (by omega), vu_ne (by omega), vu_ne (by omega), vu_ne (by omega), vu_ne (by omega), vu_ne (by omega), vu_ne (by omega)]
  · rw [vu_ne (by omega), vu_ne (by omega), vu_ne (by omega), vu_ne (by omega), vu_ne (by omega), vu_ne (by omega), vu_ne (by omega)]
theorem row_129 : va_up (va_up (va_up (va_up (va_up (va_up (va_up nR 1 (some 130)) 2 (some 131)) 3 (some 132)) 4 (some 133)) 6 (some 134)) 7 (some 135)) 8 (some 136) = RR 129 := by
  funext k
  rcases k with _ | _ | _ | _ | _ | _ | _ | _ | _ | k
  all_goals rfl
theorem ru_129 {X : Nat × (Nat → Int32)} {d : Nat} {R : Nat → Nat → Option Nat} {I : Nat → Nat → Int32} {J : Nat → Nat → Int64} (hd : 1 ≤ d) (hR : R 129 = nR) : ∃ I' J', callF X d 65 [.ref 129] (mkS 130 R I J) = some (none, mkS 137 (fq R 129 137) I' J') ∧ (∀ a, a < 129 ∨ 137 ≤ a → I' a = I a) ∧ (∀ a, a < 129 ∨ 137 ≤ a → J' a = J a) ∧ I' 129 = I 129 := by
  obtain ⟨d, rfl⟩ : ∃ d', d = d' + 1 := ⟨d - 1, by omega⟩
  have q130 : RR 130 = nR := RR_nil rfl
  have q131 : RR 131 = nR := RR_nil rfl
  have q132 : RR 132 = nR := RR_nil rfl
  have q133 : RR 133 = nR := RR_nil rfl
  have q134 : RR 134 = nR := RR_nil rfl
  have q135 : RR 135 = nR := RR_nil rfl
  have q136 : RR 136 = nR := RR_nil rfl
  have s129 : SH 129 = (6, 10) := rfl
  have s130 : SH 130 = (20, 16) := rfl
  have s131 : SH 131 = (20, 16) := rfl
  have s132 : SH 132 = (20, 16) := rfl
  have s133 : SH 133 = (20, 16) := rfl
  have s134 : SH 134 = (20, 400) := rfl
  have s135 : SH 135 = (20, 5) := rfl
  have s136 : SH 136 = (20, 32) := rfl
  have ef : fr R 129 137 (va_up (va_up (va_up (va_up (va_up (va_up (va_up nR 1 (some 130)) 2 (some 131)) 3 (some 132)) 4 (some 133)) 6 (some 134)) 7 (some 135)) 8 (some 136)) = fq R 129 137 := fr_fq row_129 (by decide)
  refine ⟨va_up (va_up (va_up (va_up (va_up (va_up (va_up I 130 zI) 131 zI) 132 zI) 133 zI) 134 zI) 135 zI) 136 zI, va_up (va_up (va_up (va_up (va_up (va_up (va_up J 130 zJ) 131 zJ) 132 zJ) 133 zJ) 134 zJ) 135 zJ) 136 zJ, ?_, fun a ha => ?_, fun a ha => ?_, ?_⟩
  · rw [← ef, show mkS 130 R I J = mkS 130 (fr R 129 130 nR) I J from congrArg (fun z => mkS 130 z I J) (fr_0 hR)]
    refine callF_of (by decide) (Nat.le_of_ble_eq_true rfl) ?_
    show Ev X d 65 0 [.ref 129] [] ( mkS 130 (fr R 129 130 nR) I J) _
    simp (disch := first | omega | assumption | exact rfl) only [U_65_0, XX, QQ, WW, KK, QX, SHs, RRs, Nat.reduceAdd, Nat.reduceMul, Nat.reduceLeDiff, Nat.reduceEqDiff, List.length_cons, List.length_nil, decide_true, decide_false, Bool.true_and, Bool.and_true, Bool.false_and, Bool.and_false, false_and, and_false, Bool.false_eq_true, Bool.true_eq_false, reduceCtorEq, eq_self, if_true, if_false, true_and, and_true, not_true_eq_false, not_false_eq_true, if_pos, if_neg, z_ite_not, false_or, or_false, true_or, or_true, SWs, swk_0, swk_1, SSs, FRs]
  · rw [vu_ne (by omega), vu_ne (by omega), vu_ne (by omega), vu_ne (by omega), vu_ne (by omega), vu_ne (by omega), vu_ne (by omega)]
  · rw [vu_ne (by omega), vu_ne (by omega), vu_ne (by omega), vu_ne (by omega), vu_ne (by omega), vu_ne (by omega), vu_ne (by omega)]
  · rw [vu_ne (by omega), vu_ne (by omega), vu_ne (by omega), vu_ne (by omega), vu_ne (by omega), vu_ne (by omega), vu_ne (by omega)]
theorem row_8 : va_up (va_up (va_up (va_up (va_up nR 1 (some 9)) 2 (some 10)) 3 (some 11)) 4 (some 12)) 5 (some 13) = RR 8 := by
  funext k
  rcases k with _ | _ | _ | _ | _ | _ | k
  all_goals rfl
theorem hi_8 {X : Nat × (Nat → Int32)} {d : Nat} {R : Nat → Nat → Option Nat} {I : Nat → Nat → Int32} {J : Nat → Nat → Int64} (hd : 1 ≤ d) (hR : R 8 = nR) : ∃ I' J', callF X d 24 [.ref 8] (mkS 9 R I J) = some (none, mkS 14 (fq R 8 14) I' J') ∧ (∀ a, a < 8 ∨ 14 ≤ a → I' a = I a) ∧ (∀ a, a < 8 ∨ 14 ≤ a → J' a = J a) ∧ I' 8 = I 8 := by
  obtain ⟨d, rfl⟩ : ∃ d', d = d' + 1 := ⟨d - 1, by omega⟩
  have q9 : RR 9 = nR := RR_nil rfl
  have q10 : RR 10 = nR := RR_nil rfl
  have q11 : RR 11 = nR := RR_nil rfl
  have q12 : RR 12 = nR := RR_nil rfl
  have q13 : RR 13 = nR := RR_nil rfl
  have s8 : SH 8 = (1, 6) := rfl
  have s9 : SH 9 = (20, 60) := rfl
  have s10 : SH 10 = (20, 60) := rfl
  have s11 : SH 11 = (20, 60) := rfl
  have s12 : SH 12 = (20, 1440) := rfl
  have s13 : SH 13 = (20, 1440) := rfl
  have ef : fr R 8 14 (va_up (va_up (va_up (va_up (va_up nR 1 (some 9)) 2 (some 10)) 3 (some 11)) 4 (some 12)) 5 (some 13)) = fq R 8 14 := fr_fq row_8 (by decide)
  refine ⟨va_up (va_up (va_up (va_up (va_up I 9 zI) 10 zI) 11 zI) 12 zI) 13 zI, va_up (va_up (va_up (va_up (va_up J 9 zJ) 10 zJ) 11 zJ) 12 zJ) 13 zJ, ?_, fun a ha => ?_, fun a ha => ?_, ?_⟩
  · rw [← ef, show mkS 9 R I J = mkS 9 (fr R 8 9 nR) I J from congrArg (fun z => mkS 9 z I J) (fr_0 hR)]
    refine callF_of (by decide) (Nat.le_of_ble_eq_true rfl) ?_
    show Ev X d 24 0 [.ref 8] [] ( mkS 9 (fr R 8 9 nR) I J) _
    simp (disch := first | omega | assumption | exact rfl) only [U_24_0, XX, QQ, WW, KK, QX, SHs, RRs, Nat.reduceAdd, Nat.reduceMul, Nat.reduceLeDiff, Nat.reduceEqDiff, List.length_cons, List.length_nil, decide_true, decide_false, Bool.true_and, Bool.and_true, Bool.false_and, Bool.and_false, false_and, and_false, Bool.false_eq_true, Bool.true_eq_false, reduceCtorEq, eq_self, if_true, if_false, true_and, and_true, not_true_eq_false, not_false_eq_true, if_pos, if_neg, z_ite_not, false_or, or_false, true_or, or_true, SWs, swk_0, swk_1, SSs, FRs]
  · rw [vu_ne (by omega), vu_ne (by omega), vu_ne (by omega), vu_ne (by omega), vu_ne (by omega)]
  · rw [vu_ne (by omega), vu_ne (by omega), vu_ne (by omega), vu_ne (by omega), vu_ne (by omega)]
  · rw [vu_ne (by omega), vu_ne (by omega), vu_ne (by omega), vu_ne (by omega), vu_ne (by omega)]
theorem row_69 : va_up (va_up (va_up (va_up (va_up nR 1 (some 70)) 2 (some 71)) 3 (some 72)) 4 (some 73)) 5 (some 74) = RR 69 := by
  funext k
  rcases k with _ | _ | _ | _ | _ | _ | k
  all_goals rfl
theorem hi_69 {X : Nat × (Nat → Int32)} {d : Nat} {R : Nat → Nat → Option Nat} {I : Nat → Nat → Int32} {J : Nat → Nat → Int64} (hd : 1 ≤ d) (hR : R 69 = nR) : ∃ I' J', callF X d 24 [.ref 69] (mkS 70 R I J) = some (none, mkS 75 (fq R 69 75) I' J') ∧ (∀ a, a < 69 ∨ 75 ≤ a → I' a = I a) ∧ (∀ a, a < 69 ∨ 75 ≤ a → J' a = J a) ∧ I' 69 = I 69 := by
  obtain ⟨d, rfl⟩ : ∃ d', d = d' + 1 := ⟨d - 1, by omega⟩
  have q70 : RR 70 = nR := RR_nil rfl
  have q71 : RR 71 = nR := RR_nil rfl
  have q72 : RR 72 = nR := RR_nil rfl
  have q73 : RR 73 = nR := RR_nil rfl
  have q74 : RR 74 = nR := RR_nil rfl
  have s69 : SH 69 = (1, 6) := rfl
  have s70 : SH 70 = (20, 60) := rfl
  have s71 : SH 71 = (20, 60) := rfl
  have s72 : SH 72 = (20, 60) := rfl
  have s73 : SH 73 = (20, 1440) := rfl
  have s74 : SH 74 = (20, 1440) := rfl
  have ef : fr R 69 75 (va_up (va_up (va_up (va_up (va_up nR 1 (some 70)) 2 (some 71)) 3 (some 72)) 4 (some 73)) 5 (some 74)) = fq R 69 75 := fr_fq row_69 (by decide)
  refine ⟨va_up (va_up (va_up (va_up (va_up I 70 zI) 71 zI) 72 zI) 73 zI) 74 zI, va_up (va_up (va_up (va_up (va_up J 70 zJ) 71 zJ) 72 zJ) 73 zJ) 74 zJ, ?_, fun a ha => ?_, fun a ha => ?_, ?_⟩
  · rw [← ef, show mkS 70 R I J = mkS 70 (fr R 69 70 nR) I J from congrArg (fun z => mkS 70 z I J) (fr_0 hR)]
    refine callF_of (by decide) (Nat.le_of_ble_eq_true rfl) ?_
    show Ev X d 24 0 [.ref 69] [] ( mkS 70 (fr R 69 70 nR) I J) _
    simp (disch := first | omega | assumption | exact rfl) only [U_24_0, XX, QQ, WW, KK, QX, SHs, RRs, Nat.reduceAdd, Nat.reduceMul, Nat.reduceLeDiff, Nat.reduceEqDiff, List.length_cons, List.length_nil, decide_true, decide_false, Bool.true_and, Bool.and_true, Bool.false_and, Bool.and_false, false_and, and_false, Bool.false_eq_true, Bool.true_eq_false, reduceCtorEq, eq_self, if_true, if_false, true_and, and_true, not_true_eq_false, not_false_eq_true, if_pos, if_neg, z_ite_not, false_or, or_false, true_or, or_true, SWs, swk_0, swk_1, SSs, FRs]
  · rw [vu_ne (by omega), vu_ne (by omega), vu_ne (by omega), vu_ne (by omega), vu_ne (by omega)]
  · rw [vu_ne (by omega), vu_ne (by omega), vu_ne (by omega), vu_ne (by omega), vu_ne (by omega)]
  · rw [vu_ne (by omega), vu_ne (by omega), vu_ne (by omega), vu_ne (by omega), vu_ne (by omega)]
theorem row_137 : va_up (va_up nR 0 (some 138)) 1 (some 139) = RR 137 := by
  funext k
  rcases k with _ | _ | k
  all_goals rfl
theorem ne_137 {X : Nat × (Nat → Int32)} {d : Nat} {R : Nat → Nat → Option Nat} {I : Nat → Nat → Int32} {J : Nat → Nat → Int64} (hd : 1 ≤ d) (hR : R 137 = nR) : ∃ I' J', callF X d 36 [.ref 137] (mkS 138 R I J) = some (none, mkS 140 (fq R 137 140) I' J') ∧ (∀ a, a < 137 ∨ 140 ≤ a → I' a = I a) ∧ (∀ a, a < 137 ∨ 140 ≤ a → J' a = J a) ∧ I' 137 = I 137 := by
  obtain ⟨d, rfl⟩ : ∃ d', d = d' + 1 := ⟨d - 1, by omega⟩
  have q138 : RR 138 = nR := RR_nil rfl
  have q139 : RR 139 = nR := RR_nil rfl
  have s137 : SH 137 = (3, 6) := rfl
  have s138 : SH 138 = (20, 24) := rfl
  have s139 : SH 139 = (20, 4) := rfl
  have ef : fr R 137 140 (va_up (va_up nR 0 (some 138)) 1 (some 139)) = fq R 137 140 := fr_fq row_137 (by decide)
  refine ⟨va_up (va_up I 138 zI) 139 zI, va_up (va_up J 138 zJ) 139 zJ, ?_, fun a ha => ?_, fun a ha => ?_, ?_⟩
  · rw [← ef, show mkS 138 R I J = mkS 138 (fr R 137 138 nR) I J from congrArg (fun z => mkS 138 z I J) (fr_0 hR)]
    refine callF_of (by decide) (Nat.le_of_ble_eq_true rfl) ?_
    show Ev X d 36 0 [.ref 137] [] ( mkS 138 (fr R 137 138 nR) I J) _
    simp (disch := first | omega | assumption | exact rfl) only [U_36_0, XX, QQ, WW, KK, QX, SHs, RRs, Nat.reduceAdd, Nat.reduceMul, Nat.reduceLeDiff, Nat.reduceEqDiff, List.length_cons, List.length_nil, decide_true, decide_false, Bool.true_and, Bool.and_true, Bool.false_and, Bool.and_false, false_and, and_false, Bool.false_eq_true, Bool.true_eq_false, reduceCtorEq, eq_self, if_true, if_false, true_and, and_true, not_true_eq_false, not_false_eq_true, if_pos, if_neg, z_ite_not, false_or, or_false, true_or, or_true, SWs, swk_0, swk_1, SSs, FRs]
  · rw [vu_ne (by omega), vu_ne (by omega)]
  · rw [vu_ne (by omega), vu_ne (by omega)]
  · rw [vu_ne (by omega), vu_ne (by omega)]
theorem row_149 : va_up (va_up nR 0 (some 150)) 1 (some 151) = RR 149 := by
  funext k
  rcases k with _ | _ | k
  all_goals rfl
theorem ne_149 {X : Nat × (Nat → Int32)} {d : Nat} {R : Nat → Nat → Option Nat} {I : Nat → Nat → Int32} {J : Nat → Nat → Int64} (hd : 1 ≤ d) (hR : R 149 = nR) : ∃ I' J', callF X d 36 [.ref 149] (mkS 150 R I J) = some (none, mkS 152 (fq R 149 152) I' J') ∧ (∀ a, a < 149 ∨ 152 ≤ a → I' a = I a) ∧ (∀ a, a < 149 ∨ 152 ≤ a → J' a = J a) ∧ I' 149 = I 149 := by
  obtain ⟨d, rfl⟩ : ∃ d', d = d' + 1 := ⟨d - 1, by omega⟩
  have q150 : RR 150 = nR := RR_nil rfl
  have q151 : RR 151 = nR := RR_nil rfl
  have s149 : SH 149 = (3, 6) := rfl
  have s150 : SH 150 = (20, 24) := rfl
  have s151 : SH 151 = (20, 4) := rfl
  have ef : fr R 149 152 (va_up (va_up nR 0 (some 150)) 1 (some 151)) = fq R 149 152 := fr_fq row_149 (by decide)
  refine ⟨va_up (va_up I 150 zI) 151 zI, va_up (va_up J 150 zJ) 151 zJ, ?_, fun a ha => ?_, fun a ha => ?_, ?_⟩
  · rw [← ef, show mkS 150 R I J = mkS 150 (fr R 149 150 nR) I J from congrArg (fun z => mkS 150 z I J) (fr_0 hR)]
    refine callF_of (by decide) (Nat.le_of_ble_eq_true rfl) ?_
    show Ev X d 36 0 [.ref 149] [] ( mkS 150 (fr R 149 150 nR) I J) _
    simp (disch := first | omega | assumption | exact rfl) only [U_36_0, XX, QQ, WW, KK, QX, SHs, RRs, Nat.reduceAdd, Nat.reduceMul, Nat.reduceLeDiff, Nat.reduceEqDiff, List.length_cons, List.length_nil, decide_true, decide_false, Bool.true_and, Bool.and_true, Bool.false_and, Bool.and_false, false_and, and_false, Bool.false_eq_true, Bool.true_eq_false, reduceCtorEq, eq_self, if_true, if_false, true_and, and_true, not_true_eq_false, not_false_eq_true, if_pos, if_neg, z_ite_not, false_or, or_false, true_or, or_true, SWs, swk_0, swk_1, SSs, FRs]
  · rw [vu_ne (by omega), vu_ne (by omega)]
  · rw [vu_ne (by omega), vu_ne (by omega)]
  · rw [vu_ne (by omega), vu_ne (by omega)]
theorem row_166 : va_up (va_up nR 0 (some 167)) 1 (some 168) = RR 166 := by
  funext k
  rcases k with _ | _ | k
  all_goals rfl
theorem ne_166 {X : Nat × (Nat → Int32)} {d : Nat} {R : Nat → Nat → Option Nat} {I : Nat → Nat → Int32} {J : Nat → Nat → Int64} (hd : 1 ≤ d) (hR : R 166 = nR) : ∃ I' J', callF X d 36 [.ref 166] (mkS 167 R I J) = some (none, mkS 169 (fq R 166 169) I' J') ∧ (∀ a, a < 166 ∨ 169 ≤ a → I' a = I a) ∧ (∀ a, a < 166 ∨ 169 ≤ a → J' a = J a) ∧ I' 166 = I 166 := by
  obtain ⟨d, rfl⟩ : ∃ d', d = d' + 1 := ⟨d - 1, by omega⟩
  have q167 : RR 167 = nR := RR_nil rfl
  have q168 : RR 168 = nR := RR_nil rfl
  have s166 : SH 166 = (3, 6) := rfl
  have s167 : SH 167 = (20, 24) := rfl
  have s168 : SH 168 = (20, 4) := rfl
  have ef : fr R 166 169 (va_up (va_up nR 0 (some 167)) 1 (some 168)) = fq R 166 169 := fr_fq row_166 (by decide)
  refine ⟨va_up (va_up I 167 zI) 168 zI, va_up (va_up J 167 zJ) 168 zJ, ?_, fun a ha => ?_, fun a ha => ?_, ?_⟩
  · rw [← ef, show mkS 167 R I J = mkS 167 (fr R 166 167 nR) I J from congrArg (fun z => mkS 167 z I J) (fr_0 hR)]
    refine callF_of (by decide) (Nat.le_of_ble_eq_true rfl) ?_
    show Ev X d 36 0 [.ref 166] [] ( mkS 167 (fr R 166 167 nR) I J) _
    simp (disch := first | omega | assumption | exact rfl) only [U_36_0, XX, QQ, WW, KK, QX, SHs, RRs, Nat.reduceAdd, Nat.reduceMul, Nat.reduceLeDiff, Nat.reduceEqDiff, List.length_cons, List.length_nil, decide_true, decide_false, Bool.true_and, Bool.and_true, Bool.false_and, Bool.and_false, false_and, and_false, Bool.false_eq_true, Bool.true_eq_false, reduceCtorEq, eq_self, if_true, if_false, true_and, and_true, not_true_eq_false, not_false_eq_true, if_pos, if_neg, z_ite_not, false_or, or_false, true_or, or_true, SWs, swk_0, swk_1, SSs, FRs]
  · rw [vu_ne (by omega), vu_ne (by omega)]
  · rw [vu_ne (by omega), vu_ne (by omega)]
  · rw [vu_ne (by omega), vu_ne (by omega)]
theorem row_125 : va_up (va_up (va_up nR 0 (some 126)) 1 (some 127)) 2 (some 128) = RR 125 := by
  funext k
  rcases k with _ | _ | _ | k
  all_goals rfl
theorem to_125 {X : Nat × (Nat → Int32)} {d : Nat} {R : Nat → Nat → Option Nat} {I : Nat → Nat → Int32} {J : Nat → Nat → Int64} (hd : 1 ≤ d) (hR : R 125 = nR) : ∃ I' J', callF X d 83 [.ref 125] (mkS 126 R I J) = some (none, mkS 129 (fq R 125 129) I' J') ∧ (∀ a, a < 125 ∨ 129 ≤ a → I' a = I a) ∧ (∀ a, a < 125 ∨ 129 ≤ a → J' a = J a) ∧ I' 125 = I 125 := by
  obtain ⟨d, rfl⟩ : ∃ d', d = d' + 1 := ⟨d - 1, by omega⟩
  have q126 : RR 126 = nR := RR_nil rfl
  have q127 : RR 127 = nR := RR_nil rfl
  have q128 : RR 128 = nR := RR_nil rfl
  have s125 : SH 125 = (8, 8) := rfl
  have s126 : SH 126 = (20, 401) := rfl
  have s127 : SH 127 = (20, 401) := rfl
  have s128 : SH 128 = (20, 401) := rfl
  have ef : fr R 125 129 (va_up (va_up (va_up nR 0 (some 126)) 1 (some 127)) 2 (some 128)) = fq R 125 129 := fr_fq row_125 (by decide)
  refine ⟨va_up (va_up (va_up I 126 zI) 127 zI) 128 zI, va_up (va_up (va_up J 126 zJ) 127 zJ) 128 zJ, ?_, fun a ha => ?_, fun a ha => ?_, ?_⟩
  · rw [← ef, show mkS 126 R I J = mkS 126 (fr R 125 126 nR) I J from congrArg (fun z => mkS 126 z I J) (fr_0 hR)]
    refine callF_of (by decide) (Nat.le_of_ble_eq_true rfl) ?_
    show Ev X d 83 0 [.ref 125] [] ( mkS 126 (fr R 125 126 nR) I J) _
    simp (disch := first | omega | assumption | exact rfl) only [U_83_0, XX, QQ, WW, KK, QX, SHs, RRs, Nat.reduceAdd, Nat.reduceMul, Nat.reduceLeDiff, Nat.reduceEqDiff, List.length_cons, List.length_nil, decide_true, decide_false, Bool.true_and, Bool.and_true, Bool.false_and, Bool.and_false, false_and, and_false, Bool.false_eq_true, Bool.true_eq_false, reduceCtorEq, eq_self, if_true, if_false, true_and, and_true, not_true_eq_false, not_false_eq_true, if_pos, if_neg, z_ite_not, false_or, or_false, true_or, or_true, SWs, swk_0, swk_1, SSs, FRs]
  · rw [vu_ne (by omega), vu_ne (by omega), vu_ne (by omega)]
  · rw [vu_ne (by omega), vu_ne (by omega), vu_ne (by omega)]
  · rw [vu_ne (by omega), vu_ne (by omega), vu_ne (by omega)]
theorem row_171 : va_up nR 0 (some 172) = RR 171 := by
  funext k
  rcases k with _ | k
  all_goals rfl
theorem se_171 {X : Nat × (Nat → Int32)} {d : Nat} {R : Nat → Nat → Option Nat} {I : Nat → Nat → Int32} {J : Nat → Nat → Int64} (hd : 1 ≤ d) (hR : R 171 = nR) : ∃ I' J', callF X d 78 [.ref 171] (mkS 172 R I J) = some (none, mkS 173 (fq R 171 173) I' J') ∧ (∀ a, a < 171 ∨ 173 ≤ a → I' a = I a) ∧ (∀ a, a < 171 ∨ 173 ≤ a → J' a = J a) ∧ I' 171 = I 171 := by
  obtain ⟨d, rfl⟩ : ∃ d', d = d' + 1 := ⟨d - 1, by omega⟩
  have q172 : RR 172 = nR := RR_nil rfl
  have s171 : SH 171 = (7, 5) := rfl
  have s172 : SH 172 = (20, 24) := rfl
  have ef : fr R 171 173 (va_up nR 0 (some 172)) = fq R 171 173 := fr_fq row_171 (by decide)
  refine ⟨va_up I 172 zI, va_up J 172 zJ, ?_, fun a ha => ?_, fun a ha => ?_, ?_⟩
  · rw [← ef, show mkS 172 R I J = mkS 172 (fr R 171 172 nR) I J from congrArg (fun z => mkS 172 z I J) (fr_0 hR)]
    refine callF_of (by decide) (Nat.le_of_ble_eq_true rfl) ?_
    show Ev X d 78 0 [.ref 171] [] ( mkS 172 (fr R 171 172 nR) I J) _
    simp (disch := first | omega | assumption | exact rfl) only [U_78_0, XX, QQ, WW, KK, QX, SHs, RRs, Nat.reduceAdd, Nat.reduceMul, Nat.reduceLeDiff, Nat.reduceEqDiff, List.length_cons, List.length_nil, decide_true, decide_false, Bool.true_and, Bool.and_true, Bool.false_and, Bool.and_false, false_and, and_false, Bool.false_eq_true, Bool.true_eq_false, reduceCtorEq, eq_self, if_true, if_false, true_and, and_true, not_true_eq_false, not_false_eq_true, if_pos, if_neg, z_ite_not, false_or, or_false, true_or, or_true, SWs, swk_0, swk_1, SSs, FRs]
  · rw [vu_ne (by omega)]
  · rw [vu_ne (by omega)]
  · rw [vu_ne (by omega)]
theorem row_158 : va_up (va_up nR 0 (some 159)) 1 (some 160) = RR 158 := by
  funext k
  rcases k with _ | _ | k
  all_goals rfl
theorem pa_158 {X : Nat × (Nat → Int32)} {d : Nat} {R : Nat → Nat → Option Nat} {I : Nat → Nat → Int32} {J : Nat → Nat → Int64} (hd : 1 ≤ d) (hR : R 158 = nR) : ∃ I' J', callF X d 41 [.ref 158] (mkS 159 R I J) = some (none, mkS 161 (fq R 158 161) I' J') ∧ (∀ a, a < 158 ∨ 161 ≤ a → I' a = I a) ∧ (∀ a, a < 158 ∨ 161 ≤ a → J' a = J a) ∧ I' 158 = I 158 := by
  obtain ⟨d, rfl⟩ : ∃ d', d = d' + 1 := ⟨d - 1, by omega⟩
  have q159 : RR 159 = nR := RR_nil rfl
  have q160 : RR 160 = nR := RR_nil rfl
  have s158 : SH 158 = (4, 2) := rfl
  have s159 : SH 159 = (21, 8192) := rfl
  have s160 : SH 160 = (20, 8192) := rfl
  have ef : fr R 158 161 (va_up (va_up nR 0 (some 159)) 1 (some 160)) = fq R 158 161 := fr_fq row_158 (by decide)
  refine ⟨va_up (va_up I 159 zI) 160 zI, va_up (va_up J 159 zJ) 160 zJ, ?_, fun a ha => ?_, fun a ha => ?_, ?_⟩
  · rw [← ef, show mkS 159 R I J = mkS 159 (fr R 158 159 nR) I J from congrArg (fun z => mkS 159 z I J) (fr_0 hR)]
    refine callF_of (by decide) (Nat.le_of_ble_eq_true rfl) ?_
    show Ev X d 41 0 [.ref 158] [] ( mkS 159 (fr R 158 159 nR) I J) _
    simp (disch := first | omega | assumption | exact rfl) only [U_41_0, XX, QQ, WW, KK, QX, SHs, RRs, Nat.reduceAdd, Nat.reduceMul, Nat.reduceLeDiff, Nat.reduceEqDiff, List.length_cons, List.length_nil, decide_true, decide_false, Bool.true_and, Bool.and_true, Bool.false_and, Bool.and_false, false_and, and_false, Bool.false_eq_true, Bool.true_eq_false, reduceCtorEq, eq_self, if_true, if_false, true_and, and_true, not_true_eq_false, not_false_eq_true, if_pos, if_neg, z_ite_not, false_or, or_false, true_or, or_true, SWs, swk_0, swk_1, SSs, FRs]
  · rw [vu_ne (by omega), vu_ne (by omega)]
  · rw [vu_ne (by omega), vu_ne (by omega)]
  · rw [vu_ne (by omega), vu_ne (by omega)]
