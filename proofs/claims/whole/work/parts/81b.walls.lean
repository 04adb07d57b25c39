/-! ===== constructors: walls (gen81.py) ===== -/
theorem row_14 : va_up (va_up (va_up nR 2 (some 15)) 3 (some 16)) 4 (some 17) = RR 14 := by
  funext k
  rcases k with _ | _ | _ | _ | _ | k
  all_goals rfl
theorem wa_14 {X : Nat × (Nat → Int32)} {d : Nat} {R : Nat → Nat → Option Nat} {I : Nat → Nat → Int32} {J : Nat → Nat → Int64} (hd : 5 ≤ d) (hR : R 14 = nR) : ∃ I' J', callF X d 92 [.ref 14] (mkS 15 R I J) = some (none, mkS 18 (fq R 14 18) I' J') ∧ (∀ a, a < 14 ∨ 18 ≤ a → I' a = I a) ∧ (∀ a, a < 14 ∨ 18 ≤ a → J' a = J a) ∧ J' 14 0 = lN 0 ∧ I' 14 1 = nI 0 ∧ ∀ i, i < 24 → I' 15 i = -1 := by
  obtain ⟨d, rfl⟩ : ∃ d', d = d' + 1 := ⟨d - 1, by omega⟩
  have q15 : RR 15 = nR := RR_nil rfl
  have q16 : RR 16 = nR := RR_nil rfl
  have q17 : RR 17 = nR := RR_nil rfl
  have s14 : SH 14 = (9, 5) := rfl
  have s15 : SH 15 = (20, 24) := rfl
  have s16 : SH 16 = (20, 24) := rfl
  have s17 : SH 17 = (20, 96) := rfl
  have ef : fr R 14 18 (va_up (va_up (va_up nR 2 (some 15)) 3 (some 16)) 4 (some 17)) = fq R 14 18 := fr_fq row_14 (by decide)
  obtain ⟨M, eM⟩ : ∃ M, M = mkS 18 (fr R 14 18 (va_up (va_up (va_up nR 2 (some 15)) 3 (some 16)) 4 (some 17))) (va_up (va_up (va_up I 15 zI) 16 zI) 17 zI) (va_up (va_up (va_up J 15 zJ) 16 zJ) 17 zJ) := ⟨_, rfl⟩
  have hW : WA M 14 := by rw [eM]; exact ⟨rfl, rfl, rfl, rfl, rfl, rfl, rfl⟩
  have r := s_raise (X := X) (d := d) (M := M) (by omega) hW (F := 0) (by decide) (by rw [pop_0]; decide)
  have b : ∀ i, i < 24 → m_I (Wend M 14 0) (14 + 1) i = -1 := fun i hi => by unfold Wend; rw [mw_I1]; exact if_pos hi
  have n : ∀ k, k < 14 ∨ 14 + 3 < k → m_I (Wend M 14 0) k = m_I M k := fun k hk => by unfold Wend; rw [mw_In hk]
  have j : ∀ k, k ≠ 14 → m_J (Wend M 14 0) k = m_J M k := fun k hk => by unfold Wend; rw [mw_Jn hk]
  have g := Wend_WG hW (F := 0) (by decide) (by rw [pop_0]; decide)
  have w : Wend M 14 0 = mkS 18 (fr R 14 18 (va_up (va_up (va_up nR 2 (some 15)) 3 (some 16)) 4 (some 17))) (m_I (Wend M 14 0)) (m_J (Wend M 14 0)) := by rw [eM]; rfl
  obtain ⟨g1, g2, g3, g4, g5, _⟩ := g
  refine ⟨m_I (Wend M 14 0), m_J (Wend M 14 0), ?_, fun a ha => ?_, fun a ha => ?_, g4, by rw [g5, pop_0], b⟩
  · rw [← ef, show mkS 15 R I J = mkS 15 (fr R 14 15 nR) I J from congrArg (fun z => mkS 15 z I J) (fr_0 hR), ← w]
    rw [eM] at r ⊢
    refine callF_of (by decide) (Nat.le_of_ble_eq_true rfl) ?_
    show Ev X d 92 0 [.ref 14] [] ( mkS 15 (fr R 14 15 nR) I J) _
    simp (disch := first | omega | assumption | exact rfl) only [U_92_0, XX, QQ, WW, KK, QX, SHs, RRs, Nat.reduceAdd, Nat.reduceMul, Nat.reduceLeDiff, Nat.reduceEqDiff, List.length_cons, List.length_nil, decide_true, decide_false, Bool.true_and, Bool.and_true, Bool.false_and, Bool.and_false, false_and, and_false, Bool.false_eq_true, Bool.true_eq_false, reduceCtorEq, eq_self, if_true, if_false, true_and, and_true, not_true_eq_false, not_false_eq_true, if_pos, if_neg, z_ite_not, false_or, or_false, true_or, or_true, SWs, swk_0, swk_1, SSs, FRs, r]
  · rw [n a (by omega), eM, S_I, vu_ne (by omega), vu_ne (by omega), vu_ne (by omega)]
  · rw [j a (by omega), eM, S_J, vu_ne (by omega), vu_ne (by omega), vu_ne (by omega)]
theorem row_18 : va_up (va_up (va_up nR 2 (some 19)) 3 (some 20)) 4 (some 21) = RR 18 := by
  funext k
  rcases k with _ | _ | _ | _ | _ | k
  all_goals rfl
theorem wa_18 {X : Nat × (Nat → Int32)} {d : Nat} {R : Nat → Nat → Option Nat} {I : Nat → Nat → Int32} {J : Nat → Nat → Int64} (hd : 5 ≤ d) (hR : R 18 = nR) : ∃ I' J', callF X d 92 [.ref 18] (mkS 19 R I J) = some (none, mkS 22 (fq R 18 22) I' J') ∧ (∀ a, a < 18 ∨ 22 ≤ a → I' a = I a) ∧ (∀ a, a < 18 ∨ 22 ≤ a → J' a = J a) ∧ J' 18 0 = lN 0 ∧ I' 18 1 = nI 0 ∧ ∀ i, i < 24 → I' 19 i = -1 := by
  obtain ⟨d, rfl⟩ : ∃ d', d = d' + 1 := ⟨d - 1, by omega⟩
  have q19 : RR 19 = nR := RR_nil rfl
  have q20 : RR 20 = nR := RR_nil rfl
  have q21 : RR 21 = nR := RR_nil rfl
  have s18 : SH 18 = (9, 5) := rfl
  have s19 : SH 19 = (20, 24) := rfl
  have s20 : SH 20 = (20, 24) := rfl
  have s21 : SH 21 = (20, 96) := rfl
  have ef : fr R 18 22 (va_up (va_up (va_up nR 2 (some 19)) 3 (some 20)) 4 (some 21)) = fq R 18 22 := fr_fq row_18 (by decide)
  obtain ⟨M, eM⟩ : ∃ M, M = mkS 22 (fr R 18 22 (va_up (va_up (va_up nR 2 (some 19)) 3 (some 20)) 4 (some 21))) (va_up (va_up (va_up I 19 zI) 20 zI) 21 zI) (va_up (va_up (va_up J 19 zJ) 20 zJ) 21 zJ) := ⟨_, rfl⟩
  have hW : WA M 18 := by rw [eM]; exact ⟨rfl, rfl, rfl, rfl, rfl, rfl, rfl⟩
  have r := s_raise (X := X) (d := d) (M := M) (by omega) hW (F := 0) (by decide) (by rw [pop_0]; decide)
  have b : ∀ i, i < 24 → m_I (Wend M 18 0) (18 + 1) i = -1 := fun i hi => by unfold Wend; rw [mw_I1]; exact if_pos hi
  have n : ∀ k, k < 18 ∨ 18 + 3 < k → m_I (Wend M 18 0) k = m_I M k := fun k hk => by unfold Wend; rw [mw_In hk]
  have j : ∀ k, k ≠ 18 → m_J (Wend M 18 0) k = m_J M k := fun k hk => by unfold Wend; rw [mw_Jn hk]
  have g := Wend_WG hW (F := 0) (by decide) (by rw [pop_0]; decide)
  have w : Wend M 18 0 = mkS 22 (fr R 18 22 (va_up (va_up (va_up nR 2 (some 19)) 3 (some 20)) 4 (some 21))) (m_I (Wend M 18 0)) (m_J (Wend M 18 0)) := by rw [eM]; rfl
  obtain ⟨g1, g2, g3, g4, g5, _⟩ := g
  refine ⟨m_I (Wend M 18 0), m_J (Wend M 18 0), ?_, fun a ha => ?_, fun a ha => ?_, g4, by rw [g5, pop_0], b⟩
  · rw [← ef, show mkS 19 R I J = mkS 19 (fr R 18 19 nR) I J from congrArg (fun z => mkS 19 z I J) (fr_0 hR), ← w]
    rw [eM] at r ⊢
    refine callF_of (by decide) (Nat.le_of_ble_eq_true rfl) ?_
    show Ev X d 92 0 [.ref 18] [] ( mkS 19 (fr R 18 19 nR) I J) _
    simp (disch := first | omega | assumption | exact rfl) only [U_92_0, XX, QQ, WW, KK, QX, SHs, RRs, Nat.reduceAdd, Nat.reduceMul, Nat.reduceLeDiff, Nat.reduceEqDiff, List.length_cons, List.length_nil, decide_true, decide_false, Bool.true_and, Bool.and_true, Bool.false_and, Bool.and_false, false_and, and_false, Bool.false_eq_true, Bool.true_eq_false, reduceCtorEq, eq_self, if_true, if_false, true_and, and_true, not_true_eq_false, not_false_eq_true, if_pos, if_neg, z_ite_not, false_or, or_false, true_or, or_true, SWs, swk_0, swk_1, SSs, FRs, r]
  · rw [n a (by omega), eM, S_I, vu_ne (by omega), vu_ne (by omega), vu_ne (by omega)]
  · rw [j a (by omega), eM, S_J, vu_ne (by omega), vu_ne (by omega), vu_ne (by omega)]
theorem row_22 : va_up (va_up (va_up nR 2 (some 23)) 3 (some 24)) 4 (some 25) = RR 22 := by
  funext k
  rcases k with _ | _ | _ | _ | _ | k
  all_goals rfl
theorem wa_22 {X : Nat × (Nat → Int32)} {d : Nat} {R : Nat → Nat → Option Nat} {I : Nat → Nat → Int32} {J : Nat → Nat → Int64} (hd : 5 ≤ d) (hR : R 22 = nR) : ∃ I' J', callF X d 92 [.ref 22] (mkS 23 R I J) = some (none, mkS 26 (fq R 22 26) I' J') ∧ (∀ a, a < 22 ∨ 26 ≤ a → I' a = I a) ∧ (∀ a, a < 22 ∨ 26 ≤ a → J' a = J a) ∧ J' 22 0 = lN 0 ∧ I' 22 1 = nI 0 ∧ ∀ i, i < 24 → I' 23 i = -1 := by
  obtain ⟨d, rfl⟩ : ∃ d', d = d' + 1 := ⟨d - 1, by omega⟩
  have q23 : RR 23 = nR := RR_nil rfl
  have q24 : RR 24 = nR := RR_nil rfl
  have q25 : RR 25 = nR := RR_nil rfl
  have s22 : SH 22 = (9, 5) := rfl
  have s23 : SH 23 = (20, 24) := rfl
  have s24 : SH 24 = (20, 24) := rfl
  have s25 : SH 25 = (20, 96) := rfl
  have ef : fr R 22 26 (va_up (va_up (va_up nR 2 (some 23)) 3 (some 24)) 4 (some 25)) = fq R 22 26 := fr_fq row_22 (by decide)
  obtain ⟨M, eM⟩ : ∃ M, M = mkS 26 (fr R 22 26 (va_up (va_up (va_up nR 2 (some 23)) 3 (some 24)) 4 (some 25))) (va_up (va_up (va_up I 23 zI) 24 zI) 25 zI) (va_up (va_up (va_up J 23 zJ) 24 zJ) 25 zJ) := ⟨_, rfl⟩
  have hW : WA M 22 := by rw [eM]; exact ⟨rfl, rfl, rfl, rfl, rfl, rfl, rfl⟩
  have r := s_raise (X := X) (d := d) (M := M) (by omega) hW (F := 0) (by decide) (by rw [pop_0]; decide)
  have b : ∀ i, i < 24 → m_I (Wend M 22 0) (22 + 1) i = -1 := fun i hi => by unfold Wend; rw [mw_I1]; exact if_pos hi
  have n : ∀ k, k < 22 ∨ 22 + 3 < k → m_I (Wend M 22 0) k = m_I M k := fun k hk => by unfold Wend; rw [mw_In hk]
  have j : ∀ k, k ≠ 22 → m_J (Wend M 22 0) k = m_J M k := fun k hk => by unfold Wend; rw [mw_Jn hk]
  have g := Wend_WG hW (F := 0) (by decide) (by rw [pop_0]; decide)
  have w : Wend M 22 0 = mkS 26 (fr R 22 26 (va_up (va_up (va_up nR 2 (some 23)) 3 (some 24)) 4 (some 25))) (m_I (Wend M 22 0)) (m_J (Wend M 22 0)) := by rw [eM]; rfl
  obtain ⟨g1, g2, g3, g4, g5, _⟩ := g
  refine ⟨m_I (Wend M 22 0), m_J (Wend M 22 0), ?_, fun a ha => ?_, fun a ha => ?_, g4, by rw [g5, pop_0], b⟩
  · rw [← ef, show mkS 23 R I J = mkS 23 (fr R 22 23 nR) I J from congrArg (fun z => mkS 23 z I J) (fr_0 hR), ← w]
    rw [eM] at r ⊢
    refine callF_of (by decide) (Nat.le_of_ble_eq_true rfl) ?_
    show Ev X d 92 0 [.ref 22] [] ( mkS 23 (fr R 22 23 nR) I J) _
    simp (disch := first | omega | assumption | exact rfl) only [U_92_0, XX, QQ, WW, KK, QX, SHs, RRs, Nat.reduceAdd, Nat.reduceMul, Nat.reduceLeDiff, Nat.reduceEqDiff, List.length_cons, List.length_nil, decide_true, decide_false, Bool.true_and, Bool.and_true, Bool.false_and, Bool.and_false, false_and, and_false, Bool.false_eq_true, Bool.true_eq_false, reduceCtorEq, eq_self, if_true, if_false, true_and, and_true, not_true_eq_false, not_false_eq_true, if_pos, if_neg, z_ite_not, false_or, or_false, true_or, or_true, SWs, swk_0, swk_1, SSs, FRs, r]
  · rw [n a (by omega), eM, S_I, vu_ne (by omega), vu_ne (by omega), vu_ne (by omega)]
  · rw [j a (by omega), eM, S_J, vu_ne (by omega), vu_ne (by omega), vu_ne (by omega)]
theorem row_26 : va_up (va_up (va_up nR 2 (some 27)) 3 (some 28)) 4 (some 29) = RR 26 := by
  funext k
  rcases k with _ | _ | _ | _ | _ | k
  all_goals rfl
theorem wa_26 {X : Nat × (Nat → Int32)} {d : Nat} {R : Nat → Nat → Option Nat} {I : Nat → Nat → Int32} {J : Nat → Nat → Int64} (hd : 5 ≤ d) (hR : R 26 = nR) : ∃ I' J', callF X d 92 [.ref 26] (mkS 27 R I J) = some (none, mkS 30 (fq R 26 30) I' J') ∧ (∀ a, a < 26 ∨ 30 ≤ a → I' a = I a) ∧ (∀ a, a < 26 ∨ 30 ≤ a → J' a = J a) ∧ J' 26 0 = lN 0 ∧ I' 26 1 = nI 0 ∧ ∀ i, i < 24 → I' 27 i = -1 := by
  obtain ⟨d, rfl⟩ : ∃ d', d = d' + 1 := ⟨d - 1, by omega⟩
  have q27 : RR 27 = nR := RR_nil rfl
  have q28 : RR 28 = nR := RR_nil rfl
  have q29 : RR 29 = nR := RR_nil rfl
  have s26 : SH 26 = (9, 5) := rfl
  have s27 : SH 27 = (20, 24) := rfl
  have s28 : SH 28 = (20, 24) := rfl
  have s29 : SH 29 = (20, 96) := rfl
  have ef : fr R 26 30 (va_up (va_up (va_up nR 2 (some 27)) 3 (some 28)) 4 (some 29)) = fq R 26 30 := fr_fq row_26 (by decide)
  obtain ⟨M, eM⟩ : ∃ M, M = mkS 30 (fr R 26 30 (va_up (va_up (va_up nR 2 (some 27)) 3 (some 28)) 4 (some 29))) (va_up (va_up (va_up I 27 zI) 28 zI) 29 zI) (va_up (va_up (va_up J 27 zJ) 28 zJ) 29 zJ) := ⟨_, rfl⟩
  have hW : WA M 26 := by rw [eM]; exact ⟨rfl, rfl, rfl, rfl, rfl, rfl, rfl⟩
  have r := s_raise (X := X) (d := d) (M := M) (by omega) hW (F := 0) (by decide) (by rw [pop_0]; decide)
  have b : ∀ i, i < 24 → m_I (Wend M 26 0) (26 + 1) i = -1 := fun i hi => by unfold Wend; rw [mw_I1]; exact if_pos hi
  have n : ∀ k, k < 26 ∨ 26 + 3 < k → m_I (Wend M 26 0) k = m_I M k := fun k hk => by unfold Wend; rw [mw_In hk]
  have j : ∀ k, k ≠ 26 → m_J (Wend M 26 0) k = m_J M k := fun k hk => by unfold Wend; rw [mw_Jn hk]
  have g := Wend_WG hW (F := 0) (by decide) (by rw [pop_0]; decide)
  have w : Wend M 26 0 = mkS 30 (fr R 26 30 (va_up (va_up (va_up nR 2 (some 27)) 3 (some 28)) 4 (some 29))) (m_I (Wend M 26 0)) (m_J (Wend M 26 0)) := by rw [eM]; rfl
  obtain ⟨g1, g2, g3, g4, g5, _⟩ := g
  refine ⟨m_I (Wend M 26 0), m_J (Wend M 26 0), ?_, fun a ha => ?_, fun a ha => ?_, g4, by rw [g5, pop_0], b⟩
  · rw [← ef, show mkS 27 R I J = mkS 27 (fr R 26 27 nR) I J from congrArg (fun z => mkS 27 z I J) (fr_0 hR), ← w]
    rw [eM] at r ⊢
    refine callF_of (by decide) (Nat.le_of_ble_eq_true rfl) ?_
    show Ev X d 92 0 [.ref 26] [] ( mkS 27 (fr R 26 27 nR) I J) _
    simp (disch := first | omega | assumption | exact rfl) only [U_92_0, XX, QQ, WW, KK, QX, SHs, RRs, Nat.reduceAdd, Nat.reduceMul, Nat.reduceLeDiff, Nat.reduceEqDiff, List.length_cons, List.length_nil, decide_true, decide_false, Bool.true_and, Bool.and_true, Bool.false_and, Bool.and_false, false_and, and_false, Bool.false_eq_true, Bool.true_eq_false, reduceCtorEq, eq_self, if_true, if_false, true_and, and_true, not_true_eq_false, not_false_eq_true, if_pos, if_neg, z_ite_not, false_or, or_false, true_or, or_true, SWs, swk_0, swk_1, SSs, FRs, r]
  · rw [n a (by omega), eM, S_I, vu_ne (by omega), vu_ne (by omega), vu_ne (by omega)]
  · rw [j a (by omega), eM, S_J, vu_ne (by omega), vu_ne (by omega), vu_ne (by omega)]
theorem row_30 : va_up (va_up (va_up nR 2 (some 31)) 3 (some 32)) 4 (some 33) = RR 30 := by
  funext k
  rcases k with _ | _ | _ | _ | _ | k
  all_goals rfl
theorem wa_30 {X : Nat × (Nat → Int32)} {d : Nat} {R : Nat → Nat → Option Nat} {I : Nat → Nat → Int32} {J : Nat → Nat → Int64} (hd : 5 ≤ d) (hR : R 30 = nR) : ∃ I' J', callF X d 92 [.ref 30] (mkS 31 R I J) = some (none, mkS 34 (fq R 30 34) I' J') ∧ (∀ a, a < 30 ∨ 34 ≤ a → I' a = I a) ∧ (∀ a, a < 30 ∨ 34 ≤ a → J' a = J a) ∧ J' 30 0 = lN 0 ∧ I' 30 1 = nI 0 ∧ ∀ i, i < 24 → I' 31 i = -1 := by
  obtain ⟨d, rfl⟩ : ∃ d', d = d' + 1 := ⟨d - 1, by omega⟩
  have q31 : RR 31 = nR := RR_nil rfl
  have q32 : RR 32 = nR := RR_nil rfl
  have q33 : RR 33 = nR := RR_nil rfl
  have s30 : SH 30 = (9, 5) := rfl
  have s31 : SH 31 = (20, 24) := rfl
  have s32 : SH 32 = (20, 24) := rfl
  have s33 : SH 33 = (20, 96) := rfl
  have ef : fr R 30 34 (va_up (va_up (va_up nR 2 (some 31)) 3 (some 32)) 4 (some 33)) = fq R 30 34 := fr_fq row_30 (by decide)
  obtain ⟨M, eM⟩ : ∃ M, M = mkS 34 (fr R 30 34 (va_up (va_up (va_up nR 2 (some 31)) 3 (some 32)) 4 (some 33))) (va_up (va_up (va_up I 31 zI) 32 zI) 33 zI) (va_up (va_up (va_up J 31 zJ) 32 zJ) 33 zJ) := ⟨_, rfl⟩
  have hW : WA M 30 := by rw [eM]; exact ⟨rfl, rfl, rfl, rfl, rfl, rfl, rfl⟩
  have r := s_raise (X := X) (d := d) (M := M) (by omega) hW (F := 0) (by decide) (by rw [pop_0]; decide)
  have b : ∀ i, i < 24 → m_I (Wend M 30 0) (30 + 1) i = -1 := fun i hi => by unfold Wend; rw [mw_I1]; exact if_pos hi
  have n : ∀ k, k < 30 ∨ 30 + 3 < k → m_I (Wend M 30 0) k = m_I M k := fun k hk => by unfold Wend; rw [mw_In hk]
  have j : ∀ k, k ≠ 30 → m_J (Wend M 30 0) k = m_J M k := fun k hk => by unfold Wend; rw [mw_Jn hk]
  have g := Wend_WG hW (F := 0) (by decide) (by rw [pop_0]; decide)
  have w : Wend M 30 0 = mkS 34 (fr R 30 34 (va_up (va_up (va_up nR 2 (some 31)) 3 (some 32)) 4 (some 33))) (m_I (Wend M 30 0)) (m_J (Wend M 30 0)) := by rw [eM]; rfl
  obtain ⟨g1, g2, g3, g4, g5, _⟩ := g
  refine ⟨m_I (Wend M 30 0), m_J (Wend M 30 0), ?_, fun a ha => ?_, fun a ha => ?_, g4, by rw [g5, pop_0], b⟩
  · rw [← ef, show mkS 31 R I J = mkS 31 (fr R 30 31 nR) I J from congrArg (fun z => mkS 31 z I J) (fr_0 hR), ← w]
    rw [eM] at r ⊢
    refine callF_of (by decide) (Nat.le_of_ble_eq_true rfl) ?_
    show Ev X d 92 0 [.ref 30] [] ( mkS 31 (fr R 30 31 nR) I J) _
    simp (disch := first | omega | assumption | exact rfl) only [U_92_0, XX, QQ, WW, KK, QX, SHs, RRs, Nat.reduceAdd, Nat.reduceMul, Nat.reduceLeDiff, Nat.reduceEqDiff, List.length_cons, List.length_nil, decide_true, decide_false, Bool.true_and, Bool.and_true, Bool.false_and, Bool.and_false, false_and, and_false, Bool.false_eq_true, Bool.true_eq_false, reduceCtorEq, eq_self, if_true, if_false, true_and, and_true, not_true_eq_false, not_false_eq_true, if_pos, if_neg, z_ite_not, false_or, or_false, true_or, or_true, SWs, swk_0, swk_1, SSs, FRs, r]
  · rw [n a (by omega), eM, S_I, vu_ne (by omega), vu_ne (by omega), vu_ne (by omega)]
  · rw [j a (by omega), eM, S_J, vu_ne (by omega), vu_ne (by omega), vu_ne (by omega)]
theorem row_34 : va_up (va_up (va_up nR 2 (some 35)) 3 (some 36)) 4 (some 37) = RR 34 := by
  funext k
  rcases k with _ | _ | _ | _ | _ | k
  all_goals rfl
theorem wa_34 {X : Nat × (Nat → Int32)} {d : Nat} {R : Nat → Nat → Option Nat} {I : Nat → Nat → Int32} {J : Nat → Nat → Int64} (hd : 5 ≤ d) (hR : R 34 = nR) : ∃ I' J', callF X d 92 [.ref 34] (mkS 35 R I J) = some (none, mkS 38 (fq R 34 38) I' J') ∧ (∀ a, a < 34 ∨ 38 ≤ a → I' a = I a) ∧ (∀ a, a < 34 ∨ 38 ≤ a → J' a = J a) ∧ J' 34 0 = lN 0 ∧ I' 34 1 = nI 0 ∧ ∀ i, i < 24 → I' 35 i = -1 := by
  obtain ⟨d, rfl⟩ : ∃ d', d = d' + 1 := ⟨d - 1, by omega⟩
  have q35 : RR 35 = nR := RR_nil rfl
  have q36 : RR 36 = nR := RR_nil rfl
  have q37 : RR 37 = nR := RR_nil rfl
  have s34 : SH 34 = (9, 5) := rfl
  have s35 : SH 35 = (20, 24) := rfl
  have s36 : SH 36 = (20, 24) := rfl
  have s37 : SH 37 = (20, 96) := rfl
  have ef : fr R 34 38 (va_up (va_up (va_up nR 2 (some 35)) 3 (some 36)) 4 (some 37)) = fq R 34 38 := fr_fq row_34 (by decide)
  obtain ⟨M, eM⟩ : ∃ M, M = mkS 38 (fr R 34 38 (va_up (va_up (va_up nR 2 (some 35)) 3 (some 36)) 4 (some 37))) (va_up (va_up (va_up I 35 zI) 36 zI) 37 zI) (va_up (va_up (va_up J 35 zJ) 36 zJ) 37 zJ) := ⟨_, rfl⟩
  have hW : WA M 34 := by rw [eM]; exact ⟨rfl, rfl, rfl, rfl, rfl, rfl, rfl⟩
  have r := s_raise (X := X) (d := d) (M := M) (by omega) hW (F := 0) (by decide) (by rw [pop_0]; decide)
  have b : ∀ i, i < 24 → m_I (Wend M 34 0) (34 + 1) i = -1 := fun i hi => by unfold Wend; rw [mw_I1]; exact if_pos hi
  have n : ∀ k, k < 34 ∨ 34 + 3 < k → m_I (Wend M 34 0) k = m_I M k := fun k hk => by unfold Wend; rw [mw_In hk]
  have j : ∀ k, k ≠ 34 → m_J (Wend M 34 0) k = m_J M k := fun k hk => by unfold Wend; rw [mw_Jn hk]
  have g := Wend_WG hW (F := 0) (by decide) (by rw [pop_0]; decide)
  have w : Wend M 34 0 = mkS 38 (fr R 34 38 (va_up (va_up (va_up nR 2 (some 35)) 3 (some 36)) 4 (some 37))) (m_I (Wend M 34 0)) (m_J (Wend M 34 0)) := by rw [eM]; rfl
  obtain ⟨g1, g2, g3, g4, g5, _⟩ := g
  refine ⟨m_I (Wend M 34 0), m_J (Wend M 34 0), ?_, fun a ha => ?_, fun a ha => ?_, g4, by rw [g5, pop_0], b⟩
  · rw [← ef, show mkS 35 R I J = mkS 35 (fr R 34 35 nR) I J from congrArg (fun z => mkS 35 z I J) (fr_0 hR), ← w]
    rw [eM] at r ⊢
    refine callF_of (by decide) (Nat.le_of_ble_eq_true rfl) ?_
    show Ev X d 92 0 [.ref 34] [] ( mkS 35 (fr R 34 35 nR) I J) _
    simp (disch := first | omega | assumption | exact rfl) only [U_92_0, XX, QQ, WW, KK, QX, SHs, RRs, Nat.reduceAdd, Nat.reduceMul, Nat.reduceLeDiff, Nat.reduceEqDiff, List.length_cons, List.length_nil, decide_true, decide_false, Bool.true_and, Bool.and_true, Bool.false_and, Bool.and_false, false_and, and_false, Bool.false_eq_true, Bool.true_eq_false, reduceCtorEq, eq_self, if_true, if_false, true_and, and_true, not_true_eq_false, not_false_eq_true, if_pos, if_neg, z_ite_not, false_or, or_false, true_or, or_true, SWs, swk_0, swk_1, SSs, FRs, r]
  · rw [n a (by omega), eM, S_I, vu_ne (by omega), vu_ne (by omega), vu_ne (by omega)]
  · rw [j a (by omega), eM, S_J, vu_ne (by omega), vu_ne (by omega), vu_ne (by omega)]
theorem row_75 : va_up (va_up (va_up nR 2 (some 76)) 3 (some 77)) 4 (some 78) = RR 75 := by
  funext k
  rcases k with _ | _ | _ | _ | _ | k
  all_goals rfl
theorem wa_75 {X : Nat × (Nat → Int32)} {d : Nat} {R : Nat → Nat → Option Nat} {I : Nat → Nat → Int32} {J : Nat → Nat → Int64} (hd : 5 ≤ d) (hR : R 75 = nR) : ∃ I' J', callF X d 92 [.ref 75] (mkS 76 R I J) = some (none, mkS 79 (fq R 75 79) I' J') ∧ (∀ a, a < 75 ∨ 79 ≤ a → I' a = I a) ∧ (∀ a, a < 75 ∨ 79 ≤ a → J' a = J a) ∧ J' 75 0 = lN 0 ∧ I' 75 1 = nI 0 ∧ ∀ i, i < 24 → I' 76 i = -1 := by
  obtain ⟨d, rfl⟩ : ∃ d', d = d' + 1 := ⟨d - 1, by omega⟩
  have q76 : RR 76 = nR := RR_nil rfl
  have q77 : RR 77 = nR := RR_nil rfl
  have q78 : RR 78 = nR := RR_nil rfl
  have s75 : SH 75 = (9, 5) := rfl
  have s76 : SH 76 = (20, 24) := rfl
  have s77 : SH 77 = (20, 24) := rfl
  have s78 : SH 78 = (20, 96) := rfl
  have ef : fr R 75 79 (va_up (va_up (va_up nR 2 (some 76)) 3 (some 77)) 4 (some 78)) = fq R 75 79 := fr_fq row_75 (by decide)
  obtain ⟨M, eM⟩ : ∃ M, M = mkS 79 (fr R 75 79 (va_up (va_up (va_up nR 2 (some 76)) 3 (some 77)) 4 (some 78))) (va_up (va_up (va_up I 76 zI) 77 zI) 78 zI) (va_up (va_up (va_up J 76 zJ) 77 zJ) 78 zJ) := ⟨_, rfl⟩
  have hW : WA M 75 := by rw [eM]; exact ⟨rfl, rfl, rfl, rfl, rfl, rfl, rfl⟩
  have r := s_raise (X := X) (d := d) (M := M) (by omega) hW (F := 0) (by decide) (by rw [pop_0]; decide)
  have b : ∀ i, i < 24 → m_I (Wend M 75 0) (75 + 1) i = -1 := fun i hi => by unfold Wend; rw [mw_I1]; exact if_pos hi
  have n : ∀ k, k < 75 ∨ 75 + 3 < k → m_I (Wend M 75 0) k = m_I M k := fun k hk => by unfold Wend; rw [mw_In hk]
  have j : ∀ k, k ≠ 75 → m_J (Wend M 75 0) k = m_J M k := fun k hk => by unfold Wend; rw [mw_Jn hk]
  have g := Wend_WG hW (F := 0) (by decide) (by rw [pop_0]; decide)
  have w : Wend M 75 0 = mkS 79 (fr R 75 79 (va_up (va_up (va_up nR 2 (some 76)) 3 (some 77)) 4 (some 78))) (m_I (Wend M 75 0)) (m_J (Wend M 75 0)) := by rw [eM]; rfl
  obtain ⟨g1, g2, g3, g4, g5, _⟩ := g
  refine ⟨m_I (Wend M 75 0), m_J (Wend M 75 0), ?_, fun a ha => ?_, fun a ha => ?_, g4, by rw [g5, pop_0], b⟩
  · rw [← ef, show mkS 76 R I J = mkS 76 (fr R 75 76 nR) I J from congrArg (fun z => mkS 76 z I J) (fr_0 hR), ← w]
    rw [eM] at r ⊢
    refine callF_of (by decide) (Nat.le_of_ble_eq_true rfl) ?_
    show Ev X d 92 0 [.ref 75] [] ( mkS 76 (fr R 75 76 nR) I J) _
    simp (disch := first | omega | assumption | exact rfl) only [U_92_0, XX, QQ, WW, KK, QX, SHs, RRs, Nat.reduceAdd, Nat.reduceMul, Nat.reduceLeDiff, Nat.reduceEqDiff, List.length_cons, List.length_nil, decide_true, decide_false, Bool.true_and, Bool.and_true, Bool.false_and, Bool.and_false, false_and, and_false, Bool.false_eq_true, Bool.true_eq_false, reduceCtorEq, eq_self, if_true, if_false, true_and, and_true, not_true_eq_false, not_false_eq_true, if_pos, if_neg, z_ite_not, false_or, or_false, true_or, or_true, SWs, swk_0, swk_1, SSs, FRs, r]
  · rw [n a (by omega), eM, S_I, vu_ne (by omega), vu_ne (by omega), vu_ne (by omega)]
  · rw [j a (by omega), eM, S_J, vu_ne (by omega), vu_ne (by omega), vu_ne (by omega)]
theorem row_79 : va_up (va_up (va_up nR 2 (some 80)) 3 (some 81)) 4 (some 82) = RR 79 := by
  funext k
  rcases k with _ | _ | _ | _ | _ | k
  all_goals rfl
theorem wa_79 {X : Nat × (Nat → Int32)} {d : Nat} {R : Nat → Nat → Option Nat} {I : Nat → Nat → Int32} {J : Nat → Nat → Int64} (hd : 5 ≤ d) (hR : R 79 = nR) : ∃ I' J', callF X d 92 [.ref 79] (mkS 80 R I J) = some (none, mkS 83 (fq R 79 83) I' J') ∧ (∀ a, a < 79 ∨ 83 ≤ a → I' a = I a) ∧ (∀ a, a < 79 ∨ 83 ≤ a → J' a = J a) ∧ J' 79 0 = lN 0 ∧ I' 79 1 = nI 0 ∧ ∀ i, i < 24 → I' 80 i = -1 := by
  obtain ⟨d, rfl⟩ : ∃ d', d = d' + 1 := ⟨d - 1, by omega⟩
  have q80 : RR 80 = nR := RR_nil rfl
  have q81 : RR 81 = nR := RR_nil rfl
  have q82 : RR 82 = nR := RR_nil rfl
  have s79 : SH 79 = (9, 5) := rfl
  have s80 : SH 80 = (20, 24) := rfl
  have s81 : SH 81 = (20, 24) := rfl
  have s82 : SH 82 = (20, 96) := rfl
  have ef : fr R 79 83 (va_up (va_up (va_up nR 2 (some 80)) 3 (some 81)) 4 (some 82)) = fq R 79 83 := fr_fq row_79 (by decide)
  obtain ⟨M, eM⟩ : ∃ M, M = mkS 83 (fr R 79 83 (va_up (va_up (va_up nR 2 (some 80)) 3 (some 81)) 4 (some 82))) (va_up (va_up (va_up I 80 zI) 81 zI) 82 zI) (va_up (va_up (va_up J 80 zJ) 81 zJ) 82 zJ) := ⟨_, rfl⟩
  have hW : WA M 79 := by rw [eM]; exact ⟨rfl, rfl, rfl, rfl, rfl, rfl, rfl⟩
  have r := s_raise (X := X) (d := d) (M := M) (by omega) hW (F := 0) (by decide) (by rw [pop_0]; decide)
  have b : ∀ i, i < 24 → m_I (Wend M 79 0) (79 + 1) i = -1 := fun i hi => by unfold Wend; rw [mw_I1]; exact if_pos hi
  have n : ∀ k, k < 79 ∨ 79 + 3 < k → m_I (Wend M 79 0) k = m_I M k := fun k hk => by unfold Wend; rw [mw_In hk]
  have j : ∀ k, k ≠ 79 → m_J (Wend M 79 0) k = m_J M k := fun k hk => by unfold Wend; rw [mw_Jn hk]
  have g := Wend_WG hW (F := 0) (by decide) (by rw [pop_0]; decide)
  have w : Wend M 79 0 = mkS 83 (fr R 79 83 (va_up (va_up (va_up nR 2 (some 80)) 3 (some 81)) 4 (some 82))) (m_I (Wend M 79 0)) (m_J (Wend M 79 0)) := by rw [eM]; rfl
  obtain ⟨g1, g2, g3, g4, g5, _⟩ := g
  refine ⟨m_I (Wend M 79 0), m_J (Wend M 79 0), ?_, fun a ha => ?_, fun a ha => ?_, g4, by rw [g5, pop_0], b⟩
  · rw [← ef, show mkS 80 R I J = mkS 80 (fr R 79 80 nR) I J from congrArg (fun z => mkS 80 z I J) (fr_0 hR), ← w]
    rw [eM] at r ⊢
    refine callF_of (by decide) (Nat.le_of_ble_eq_true rfl) ?_
    show Ev X d 92 0 [.ref 79] [] ( mkS 80 (fr R 79 80 nR) I J) _
    simp (disch := first | omega | assumption | exact rfl) only [U_92_0, XX, QQ, WW, KK, QX, SHs, RRs, Nat.reduceAdd, Nat.reduceMul, Nat.reduceLeDiff, Nat.reduceEqDiff, List.length_cons, List.length_nil, decide_true, decide_false, Bool.true_and, Bool.and_true, Bool.false_and, Bool.and_false, false_and, and_false, Bool.false_eq_true, Bool.true_eq_false, reduceCtorEq, eq_self, if_true, if_false, true_and, and_true, not_true_eq_false, not_false_eq_true, if_pos, if_neg, z_ite_not, false_or, or_false, true_or, or_true, SWs, swk_0, swk_1, SSs, FRs, r]
  · rw [n a (by omega), eM, S_I, vu_ne (by omega), vu_ne (by omega), vu_ne (by omega)]
  · rw [j a (by omega), eM, S_J, vu_ne (by omega), vu_ne (by omega), vu_ne (by omega)]
theorem row_83 : va_up (va_up (va_up nR 2 (some 84)) 3 (some 85)) 4 (some 86) = RR 83 := by
  funext k
  rcases k with _ | _ | _ | _ | _ | k
  all_goals rfl
theorem wa_83 {X : Nat × (Nat → Int32)} {d : Nat} {R : Nat → Nat → Option Nat} {I : Nat → Nat → Int32} {J : Nat → Nat → Int64} (hd : 5 ≤ d) (hR : R 83 = nR) : ∃ I' J', callF X d 92 [.ref 83] (mkS 84 R I J) = some (none, mkS 87 (fq R 83 87) I' J') ∧ (∀ a, a < 83 ∨ 87 ≤ a → I' a = I a) ∧ (∀ a, a < 83 ∨ 87 ≤ a → J' a = J a) ∧ J' 83 0 = lN 0 ∧ I' 83 1 = nI 0 ∧ ∀ i, i < 24 → I' 84 i = -1 := by
  obtain ⟨d, rfl⟩ : ∃ d', d = d' + 1 := ⟨d - 1, by omega⟩
  have q84 : RR 84 = nR := RR_nil rfl
  have q85 : RR 85 = nR := RR_nil rfl
  have q86 : RR 86 = nR := RR_nil rfl
  have s83 : SH 83 = (9, 5) := rfl
  have s84 : SH 84 = (20, 24) := rfl
  have s85 : SH 85 = (20, 24) := rfl
  have s86 : SH 86 = (20, 96) := rfl
  have ef : fr R 83 87 (va_up (va_up (va_up nR 2 (some 84)) 3 (some 85)) 4 (some 86)) = fq R 83 87 := fr_fq row_83 (by decide)
  obtain ⟨M, eM⟩ : ∃ M, M = mkS 87 (fr R 83 87 (va_up (va_up (va_up nR 2 (some 84)) 3 (some 85)) 4 (some 86))) (va_up (va_up (va_up I 84 zI) 85 zI) 86 zI) (va_up (va_up (va_up J 84 zJ) 85 zJ) 86 zJ) := ⟨_, rfl⟩
  have hW : WA M 83 := by rw [eM]; exact ⟨rfl, rfl, rfl, rfl, rfl, rfl, rfl⟩
  have r := s_raise (X := X) (d := d) (M := M) (by omega) hW (F := 0) (by decide) (by rw [pop_0]; decide)
  have b : ∀ i, i < 24 → m_I (Wend M 83 0) (83 + 1) i = -1 := fun i hi => by unfold Wend; rw [mw_I1]; exact if_pos hi
  have n : ∀ k, k < 83 ∨ 83 + 3 < k → m_I (Wend M 83 0) k = m_I M k := fun k hk => by unfold Wend; rw [mw_In hk]
  have j : ∀ k, k ≠ 83 → m_J (Wend M 83 0) k = m_J M k := fun k hk => by unfold Wend; rw [mw_Jn hk]
  have g := Wend_WG hW (F := 0) (by decide) (by rw [pop_0]; decide)
  have w : Wend M 83 0 = mkS 87 (fr R 83 87 (va_up (va_up (va_up nR 2 (some 84)) 3 (some 85)) 4 (some 86))) (m_I (Wend M 83 0)) (m_J (Wend M 83 0)) := by rw [eM]; rfl
  obtain ⟨g1, g2, g3, g4, g5, _⟩ := g
  refine ⟨m_I (Wend M 83 0), m_J (Wend M 83 0), ?_, fun a ha => ?_, fun a ha => ?_, g4, by rw [g5, pop_0], b⟩
  · rw [← ef, show mkS 84 R I J = mkS 84 (fr R 83 84 nR) I J from congrArg (fun z => mkS 84 z I J) (fr_0 hR), ← w]
    rw [eM] at r ⊢
    refine callF_of (by decide) (Nat.le_of_ble_eq_true rfl) ?_
    show Ev X d 92 0 [.ref 83] [] ( mkS 84 (fr R 83 84 nR) I J) _
    simp (disch := first | omega | assumption | exact rfl) only [U_92_0, XX, QQ, WW, KK, QX, SHs, RRs, Nat.reduceAdd, Nat.reduceMul, Nat.reduceLeDiff, Nat.reduceEqDiff, List.length_cons, List.length_nil, decide_true, decide_false, Bool.true_and, Bool.and_true, Bool.false_and, Bool.and_false, false_and, and_false, Bool.false_eq_true, Bool.true_eq_false, reduceCtorEq, eq_self, if_true, if_false, true_and, and_true, not_true_eq_false, not_false_eq_true, if_pos, if_neg, z_ite_not, false_or, or_false, true_or, or_true, SWs, swk_0, swk_1, SSs, FRs, r]
  · rw [n a (by omega), eM, S_I, vu_ne (by omega), vu_ne (by omega), vu_ne (by omega)]
  · rw [j a (by omega), eM, S_J, vu_ne (by omega), vu_ne (by omega), vu_ne (by omega)]
theorem row_87 : va_up (va_up (va_up nR 2 (some 88)) 3 (some 89)) 4 (some 90) = RR 87 := by
  funext k
  rcases k with _ | _ | _ | _ | _ | k
  all_goals rfl
theorem wa_87 {X : Nat × (Nat → Int32)} {d : Nat} {R : Nat → Nat → Option Nat} {I : Nat → Nat → Int32} {J : Nat → Nat → Int64} (hd : 5 ≤ d) (hR : R 87 = nR) : ∃ I' J', callF X d 92 [.ref 87] (mkS 88 R I J) = some (none, mkS 91 (fq R 87 91) I' J') ∧ (∀ a, a < 87 ∨ 91 ≤ a → I' a = I a) ∧ (∀ a, a < 87 ∨ 91 ≤ a → J' a = J a) ∧ J' 87 0 = lN 0 ∧ I' 87 1 = nI 0 ∧ ∀ i, i < 24 → I' 88 i = -1 := by
  obtain ⟨d, rfl⟩ : ∃ d', d = d' + 1 := ⟨d - 1, by omega⟩
  have q88 : RR 88 = nR := RR_nil rfl
  have q89 : RR 89 = nR := RR_nil rfl
  have q90 : RR 90 = nR := RR_nil rfl
  have s87 : SH 87 = (9, 5) := rfl
  have s88 : SH 88 = (20, 24) := rfl
  have s89 : SH 89 = (20, 24) := rfl
  have s90 : SH 90 = (20, 96) := rfl
  have ef : fr R 87 91 (va_up (va_up (va_up nR 2 (some 88)) 3 (some 89)) 4 (some 90)) = fq R 87 91 := fr_fq row_87 (by decide)
  obtain ⟨M, eM⟩ : ∃ M, M = mkS 91 (fr R 87 91 (va_up (va_up (va_up nR 2 (some 88)) 3 (some 89)) 4 (some 90))) (va_up (va_up (va_up I 88 zI) 89 zI) 90 zI) (va_up (va_up (va_up J 88 zJ) 89 zJ) 90 zJ) := ⟨_, rfl⟩
  have hW : WA M 87 := by rw [eM]; exact ⟨rfl, rfl, rfl, rfl, rfl, rfl, rfl⟩
  have r := s_raise (X := X) (d := d) (M := M) (by omega) hW (F := 0) (by decide) (by rw [pop_0]; decide)
  have b : ∀ i, i < 24 → m_I (Wend M 87 0) (87 + 1) i = -1 := fun i hi => by unfold Wend; rw [mw_I1]; exact if_pos hi
  have n : ∀ k, k < 87 ∨ 87 + 3 < k → m_I (Wend M 87 0) k = m_I M k := fun k hk => by unfold Wend; rw [mw_In hk]
  have j : ∀ k, k ≠ 87 → m_J (Wend M 87 0) k = m_J M k := fun k hk => by unfold Wend; rw [mw_Jn hk]
  have g := Wend_WG hW (F := 0) (by decide) (by rw [pop_0]; decide)
  have w : Wend M 87 0 = mkS 91 (fr R 87 91 (va_up (va_up (va_up nR 2 (some 88)) 3 (some 89)) 4 (some 90))) (m_I (Wend M 87 0)) (m_J (Wend M 87 0)) := by rw [eM]; rfl
  obtain ⟨g1, g2, g3, g4, g5, _⟩ := g
  refine ⟨m_I (Wend M 87 0), m_J (Wend M 87 0), ?_, fun a ha => ?_, fun a ha => ?_, g4, by rw [g5, pop_0], b⟩
  · rw [← ef, show mkS 88 R I J = mkS 88 (fr R 87 88 nR) I J from congrArg (fun z => mkS 88 z I J) (fr_0 hR), ← w]
    rw [eM] at r ⊢
    refine callF_of (by decide) (Nat.le_of_ble_eq_true rfl) ?_
    show Ev X d 92 0 [.ref 87] [] ( mkS 88 (fr R 87 88 nR) I J) _
    simp (disch := first | omega | assumption | exact rfl) only [U_92_0, XX, QQ, WW, KK, QX, SHs, RRs, Nat.reduceAdd, Nat.reduceMul, Nat.reduceLeDiff, Nat.reduceEqDiff, List.length_cons, List.length_nil, decide_true, decide_false, Bool.true_and, Bool.and_true, Bool.false_and, Bool.and_false, false_and, and_false, Bool.false_eq_true, Bool.true_eq_false, reduceCtorEq, eq_self, if_true, if_false, true_and, and_true, not_true_eq_false, not_false_eq_true, if_pos, if_neg, z_ite_not, false_or, or_false, true_or, or_true, SWs, swk_0, swk_1, SSs, FRs, r]
  · rw [n a (by omega), eM, S_I, vu_ne (by omega), vu_ne (by omega), vu_ne (by omega)]
  · rw [j a (by omega), eM, S_J, vu_ne (by omega), vu_ne (by omega), vu_ne (by omega)]
theorem row_91 : va_up (va_up (va_up nR 2 (some 92)) 3 (some 93)) 4 (some 94) = RR 91 := by
  funext k
  rcases k with _ | _ | _ | _ | _ | k
  all_goals rfl
theorem wa_91 {X : Nat × (Nat → Int32)} {d : Nat} {R : Nat → Nat → Option Nat} {I : Nat → Nat → Int32} {J : Nat → Nat → Int64} (hd : 5 ≤ d) (hR : R 91 = nR) : ∃ I' J', callF X d 92 [.ref 91] (mkS 92 R I J) = some (none, mkS 95 (fq R 91 95) I' J') ∧ (∀ a, a < 91 ∨ 95 ≤ a → I' a = I a) ∧ (∀ a, a < 91 ∨ 95 ≤ a → J' a = J a) ∧ J' 91 0 = lN 0 ∧ I' 91 1 = nI 0 ∧ ∀ i, i < 24 → I' 92 i = -1 := by
  obtain ⟨d, rfl⟩ : ∃ d', d = d' + 1 := ⟨d - 1, by omega⟩
  have q92 : RR 92 = nR := RR_nil rfl
  have q93 : RR 93 = nR := RR_nil rfl
  have q94 : RR 94 = nR := RR_nil rfl
  have s91 : SH 91 = (9, 5) := rfl
  have s92 : SH 92 = (20, 24) := rfl
  have s93 : SH 93 = (20, 24) := rfl
  have s94 : SH 94 = (20, 96) := rfl
  have ef : fr R 91 95 (va_up (va_up (va_up nR 2 (some 92)) 3 (some 93)) 4 (some 94)) = fq R 91 95 := fr_fq row_91 (by decide)
  obtain ⟨M, eM⟩ : ∃ M, M = mkS 95 (fr R 91 95 (va_up (va_up (va_up nR 2 (some 92)) 3 (some 93)) 4 (some 94))) (va_up (va_up (va_up I 92 zI) 93 zI) 94 zI) (va_up (va_up (va_up J 92 zJ) 93 zJ) 94 zJ) := ⟨_, rfl⟩
  have hW : WA M 91 := by rw [eM]; exact ⟨rfl, rfl, rfl, rfl, rfl, rfl, rfl⟩
  have r := s_raise (X := X) (d := d) (M := M) (by omega) hW (F := 0) (by decide) (by rw [pop_0]; decide)
  have b : ∀ i, i < 24 → m_I (Wend M 91 0) (91 + 1) i = -1 := fun i hi => by unfold Wend; rw [mw_I1]; exact if_pos hi
  have n : ∀ k, k < 91 ∨ 91 + 3 < k → m_I (Wend M 91 0) k = m_I M k := fun k hk => by unfold Wend; rw [mw_In hk]
  have j : ∀ k, k ≠ 91 → m_J (Wend M 91 0) k = m_J M k := fun k hk => by unfold Wend; rw [mw_Jn hk]
  have g := Wend_WG hW (F := 0) (by decide) (by rw [pop_0]; decide)
  have w : Wend M 91 0 = mkS 95 (fr R 91 95 (va_up (va_up (va_up nR 2 (some 92)) 3 (some 93)) 4 (some 94))) (m_I (Wend M 91 0)) (m_J (Wend M 91 0)) := by rw [eM]; rfl
  obtain ⟨g1, g2, g3, g4, g5, _⟩ := g
  refine ⟨m_I (Wend M 91 0), m_J (Wend M 91 0), ?_, fun a ha => ?_, fun a ha => ?_, g4, by rw [g5, pop_0], b⟩
  · rw [← ef, show mkS 92 R I J = mkS 92 (fr R 91 92 nR) I J from congrArg (fun z => mkS 92 z I J) (fr_0 hR), ← w]
    rw [eM] at r ⊢
    refine callF_of (by decide) (Nat.le_of_ble_eq_true rfl) ?_
    show Ev X d 92 0 [.ref 91] [] ( mkS 92 (fr R 91 92 nR) I J) _
    simp (disch := first | omega | assumption | exact rfl) only [U_92_0, XX, QQ, WW, KK, QX, SHs, RRs, Nat.reduceAdd, Nat.reduceMul, Nat.reduceLeDiff, Nat.reduceEqDiff, List.length_cons, List.length_nil, decide_true, decide_false, Bool.true_and, Bool.and_true, Bool.false_and, Bool.and_false, false_and, and_false, Bool.false_eq_true, Bool.true_eq_false, reduceCtorEq, eq_self, if_true, if_false, true_and, and_true, not_true_eq_false, not_false_eq_true, if_pos, if_neg, z_ite_not, false_or, or_false, true_or, or_true, SWs, swk_0, swk_1, SSs, FRs, r]
  · rw [n a (by omega), eM, S_I, vu_ne (by omega), vu_ne (by omega), vu_ne (by omega)]
  · rw [j a (by omega), eM, S_J, vu_ne (by omega), vu_ne (by omega), vu_ne (by omega)]
theorem row_95 : va_up (va_up (va_up nR 2 (some 96)) 3 (some 97)) 4 (some 98) = RR 95 := by
  funext k
  rcases k with _ | _ | _ | _ | _ | k
  all_goals rfl
theorem wa_95 {X : Nat × (Nat → Int32)} {d : Nat} {R : Nat → Nat → Option Nat} {I : Nat → Nat → Int32} {J : Nat → Nat → Int64} (hd : 5 ≤ d) (hR : R 95 = nR) : ∃ I' J', callF X d 92 [.ref 95] (mkS 96 R I J) = some (none, mkS 99 (fq R 95 99) I' J') ∧ (∀ a, a < 95 ∨ 99 ≤ a → I' a = I a) ∧ (∀ a, a < 95 ∨ 99 ≤ a → J' a = J a) ∧ J' 95 0 = lN 0 ∧ I' 95 1 = nI 0 ∧ ∀ i, i < 24 → I' 96 i = -1 := by
  obtain ⟨d, rfl⟩ : ∃ d', d = d' + 1 := ⟨d - 1, by omega⟩
  have q96 : RR 96 = nR := RR_nil rfl
  have q97 : RR 97 = nR := RR_nil rfl
  have q98 : RR 98 = nR := RR_nil rfl
  have s95 : SH 95 = (9, 5) := rfl
  have s96 : SH 96 = (20, 24) := rfl
  have s97 : SH 97 = (20, 24) := rfl
  have s98 : SH 98 = (20, 96) := rfl
  have ef : fr R 95 99 (va_up (va_up (va_up nR 2 (some 96)) 3 (some 97)) 4 (some 98)) = fq R 95 99 := fr_fq row_95 (by decide)
  obtain ⟨M, eM⟩ : ∃ M, M = mkS 99 (fr R 95 99 (va_up (va_up (va_up nR 2 (some 96)) 3 (some 97)) 4 (some 98))) (va_up (va_up (va_up I 96 zI) 97 zI) 98 zI) (va_up (va_up (va_up J 96 zJ) 97 zJ) 98 zJ) := ⟨_, rfl⟩
  have hW : WA M 95 := by rw [eM]; exact ⟨rfl, rfl, rfl, rfl, rfl, rfl, rfl⟩
  have r := s_raise (X := X) (d := d) (M := M) (by omega) hW (F := 0) (by decide) (by rw [pop_0]; decide)
  have b : ∀ i, i < 24 → m_I (Wend M 95 0) (95 + 1) i = -1 := fun i hi => by unfold Wend; rw [mw_I1]; exact if_pos hi
  have n : ∀ k, k < 95 ∨ 95 + 3 < k → m_I (Wend M 95 0) k = m_I M k := fun k hk => by unfold Wend; rw [mw_In hk]
  have j : ∀ k, k ≠ 95 → m_J (Wend M 95 0) k = m_J M k := fun k hk => by unfold Wend; rw [mw_Jn hk]
  have g := Wend_WG hW (F := 0) (by decide) (by rw [pop_0]; decide)
  have w : Wend M 95 0 = mkS 99 (fr R 95 99 (va_up (va_up (va_up nR 2 (some 96)) 3 (some 97)) 4 (some 98))) (m_I (Wend M 95 0)) (m_J (Wend M 95 0)) := by rw [eM]; rfl
  obtain ⟨g1, g2, g3, g4, g5, _⟩ := g
  refine ⟨m_I (Wend M 95 0), m_J (Wend M 95 0), ?_, fun a ha => ?_, fun a ha => ?_, g4, by rw [g5, pop_0], b⟩
  · rw [← ef, show mkS 96 R I J = mkS 96 (fr R 95 96 nR) I J from congrArg (fun z => mkS 96 z I J) (fr_0 hR), ← w]
    rw [eM] at r ⊢
    refine callF_of (by decide) (Nat.le_of_ble_eq_true rfl) ?_
    show Ev X d 92 0 [.ref 95] [] ( mkS 96 (fr R 95 96 nR) I J) _
    simp (disch := first | omega | assumption | exact rfl) only [U_92_0, XX, QQ, WW, KK, QX, SHs, RRs, Nat.reduceAdd, Nat.reduceMul, Nat.reduceLeDiff, Nat.reduceEqDiff, List.length_cons, List.length_nil, decide_true, decide_false, Bool.true_and, Bool.and_true, Bool.false_and, Bool.and_false, false_and, and_false, Bool.false_eq_true, Bool.true_eq_false, reduceCtorEq, eq_self, if_true, if_false, true_and, and_true, not_true_eq_false, not_false_eq_true, if_pos, if_neg, z_ite_not, false_or, or_false, true_or, or_true, SWs, swk_0, swk_1, SSs, FRs, r]
  · rw [n a (by omega), eM, S_I, vu_ne (by omega), vu_ne (by omega), vu_ne (by omega)]
  · rw [j a (by omega), eM, S_J, vu_ne (by omega), vu_ne (by omega), vu_ne (by omega)]
theorem row_141 : va_up (va_up (va_up nR 2 (some 142)) 3 (some 143)) 4 (some 144) = RR 141 := by
  funext k
  rcases k with _ | _ | _ | _ | _ | k
  all_goals rfl
theorem wa_141 {X : Nat × (Nat → Int32)} {d : Nat} {R : Nat → Nat → Option Nat} {I : Nat → Nat → Int32} {J : Nat → Nat → Int64} (hd : 5 ≤ d) (hR : R 141 = nR) : ∃ I' J', callF X d 92 [.ref 141] (mkS 142 R I J) = some (none, mkS 145 (fq R 141 145) I' J') ∧ (∀ a, a < 141 ∨ 145 ≤ a → I' a = I a) ∧ (∀ a, a < 141 ∨ 145 ≤ a → J' a = J a) ∧ J' 141 0 = lN 0 ∧ I' 141 1 = nI 0 ∧ ∀ i, i < 24 → I' 142 i = -1 := by
  obtain ⟨d, rfl⟩ : ∃ d', d = d' + 1 := ⟨d - 1, by omega⟩
  have q142 : RR 142 = nR := RR_nil rfl
  have q143 : RR 143 = nR := RR_nil rfl
  have q144 : RR 144 = nR := RR_nil rfl
  have s141 : SH 141 = (9, 5) := rfl
  have s142 : SH 142 = (20, 24) := rfl
  have s143 : SH 143 = (20, 24) := rfl
  have s144 : SH 144 = (20, 96) := rfl
  have ef : fr R 141 145 (va_up (va_up (va_up nR 2 (some 142)) 3 (some 143)) 4 (some 144)) = fq R 141 145 := fr_fq row_141 (by decide)
  obtain ⟨M, eM⟩ : ∃ M, M = mkS 145 (fr R 141 145 (va_up (va_up (va_up nR 2 (some 142)) 3 (some 143)) 4 (some 144))) (va_up (va_up (va_up I 142 zI) 143 zI) 144 zI) (va_up (va_up (va_up J 142 zJ) 143 zJ) 144 zJ) := ⟨_, rfl⟩
  have hW : WA M 141 := by rw [eM]; exact ⟨rfl, rfl, rfl, rfl, rfl, rfl, rfl⟩
  have r := s_raise (X := X) (d := d) (M := M) (by omega) hW (F := 0) (by decide) (by rw [pop_0]; decide)
  have b : ∀ i, i < 24 → m_I (Wend M 141 0) (141 + 1) i = -1 := fun i hi => by unfold Wend; rw [mw_I1]; exact if_pos hi
  have n : ∀ k, k < 141 ∨ 141 + 3 < k → m_I (Wend M 141 0) k = m_I M k := fun k hk => by unfold Wend; rw [mw_In hk]
  have j : ∀ k, k ≠ 141 → m_J (Wend M 141 0) k = m_J M k := fun k hk => by unfold Wend; rw [mw_Jn hk]
  have g := Wend_WG hW (F := 0) (by decide) (by rw [pop_0]; decide)
  have w : Wend M 141 0 = mkS 145 (fr R 141 145 (va_up (va_up (va_up nR 2 (some 142)) 3 (some 143)) 4 (some 144))) (m_I (Wend M 141 0)) (m_J (Wend M 141 0)) := by rw [eM]; rfl
  obtain ⟨g1, g2, g3, g4, g5, _⟩ := g
  refine ⟨m_I (Wend M 141 0), m_J (Wend M 141 0), ?_, fun a ha => ?_, fun a ha => ?_, g4, by rw [g5, pop_0], b⟩
  · rw [← ef, show mkS 142 R I J = mkS 142 (fr R 141 142 nR) I J from congrArg (fun z => mkS 142 z I J) (fr_0 hR), ← w]
    rw [eM] at r ⊢
    refine callF_of (by decide) (Nat.le_of_ble_eq_true rfl) ?_
    show Ev X d 92 0 [.ref 141] [] ( mkS 142 (fr R 141 142 nR) I J) _
    simp (disch := first | omega | assumption | exact rfl) only [U_92_0, XX, QQ, WW, KK, QX, SHs, RRs, Nat.reduceAdd, Nat.reduceMul, Nat.reduceLeDiff, Nat.reduceEqDiff, List.length_cons, List.length_nil, decide_true, decide_false, Bool.true_and, Bool.and_true, Bool.false_and, Bool.and_false, false_and, and_false, Bool.false_eq_true, Bool.true_eq_false, reduceCtorEq, eq_self, if_true, if_false, true_and, and_true, not_true_eq_false, not_false_eq_true, if_pos, if_neg, z_ite_not, false_or, or_false, true_or, or_true, SWs, swk_0, swk_1, SSs, FRs, r]
  · rw [n a (by omega), eM, S_I, vu_ne (by omega), vu_ne (by omega), vu_ne (by omega)]
  · rw [j a (by omega), eM, S_J, vu_ne (by omega), vu_ne (by omega), vu_ne (by omega)]
theorem row_145 : va_up (va_up (va_up nR 2 (some 146)) 3 (some 147)) 4 (some 148) = RR 145 := by
  funext k
  rcases k with _ | _ | _ | _ | _ | k
  all_goals rfl
theorem wa_145 {X : Nat × (Nat → Int32)} {d : Nat} {R : Nat → Nat → Option Nat} {I : Nat → Nat → Int32} {J : Nat → Nat → Int64} (hd : 5 ≤ d) (hR : R 145 = nR) : ∃ I' J', callF X d 92 [.ref 145] (mkS 146 R I J) = some (none, mkS 149 (fq R 145 149) I' J') ∧ (∀ a, a < 145 ∨ 149 ≤ a → I' a = I a) ∧ (∀ a, a < 145 ∨ 149 ≤ a → J' a = J a) ∧ J' 145 0 = lN 0 ∧ I' 145 1 = nI 0 ∧ ∀ i, i < 24 → I' 146 i = -1 := by
  obtain ⟨d, rfl⟩ : ∃ d', d = d' + 1 := ⟨d - 1, by omega⟩
  have q146 : RR 146 = nR := RR_nil rfl
  have q147 : RR 147 = nR := RR_nil rfl
  have q148 : RR 148 = nR := RR_nil rfl
  have s145 : SH 145 = (9, 5) := rfl
  have s146 : SH 146 = (20, 24) := rfl
  have s147 : SH 147 = (20, 24) := rfl
  have s148 : SH 148 = (20, 96) := rfl
  have ef : fr R 145 149 (va_up (va_up (va_up nR 2 (some 146)) 3 (some 147)) 4 (some 148)) = fq R 145 149 := fr_fq row_145 (by decide)
  obtain ⟨M, eM⟩ : ∃ M, M = mkS 149 (fr R 145 149 (va_up (va_up (va_up nR 2 (some 146)) 3 (some 147)) 4 (some 148))) (va_up (va_up (va_up I 146 zI) 147 zI) 148 zI) (va_up (va_up (va_up J 146 zJ) 147 zJ) 148 zJ) := ⟨_, rfl⟩
  have hW : WA M 145 := by rw [eM]; exact ⟨rfl, rfl, rfl, rfl, rfl, rfl, rfl⟩
  have r := s_raise (X := X) (d := d) (M := M) (by omega) hW (F := 0) (by decide) (by rw [pop_0]; decide)
  have b : ∀ i, i < 24 → m_I (Wend M 145 0) (145 + 1) i = -1 := fun i hi => by unfold Wend; rw [mw_I1]; exact if_pos hi
  have n : ∀ k, k < 145 ∨ 145 + 3 < k → m_I (Wend M 145 0) k = m_I M k := fun k hk => by unfold Wend; rw [mw_In hk]
  have j : ∀ k, k ≠ 145 → m_J (Wend M 145 0) k = m_J M k := fun k hk => by unfold Wend; rw [mw_Jn hk]
  have g := Wend_WG hW (F := 0) (by decide) (by rw [pop_0]; decide)
  have w : Wend M 145 0 = mkS 149 (fr R 145 149 (va_up (va_up (va_up nR 2 (some 146)) 3 (some 147)) 4 (some 148))) (m_I (Wend M 145 0)) (m_J (Wend M 145 0)) := by rw [eM]; rfl
  obtain ⟨g1, g2, g3, g4, g5, _⟩ := g
  refine ⟨m_I (Wend M 145 0), m_J (Wend M 145 0), ?_, fun a ha => ?_, fun a ha => ?_, g4, by rw [g5, pop_0], b⟩
  · rw [← ef, show mkS 146 R I J = mkS 146 (fr R 145 146 nR) I J from congrArg (fun z => mkS 146 z I J) (fr_0 hR), ← w]
    rw [eM] at r ⊢
    refine callF_of (by decide) (Nat.le_of_ble_eq_true rfl) ?_
    show Ev X d 92 0 [.ref 145] [] ( mkS 146 (fr R 145 146 nR) I J) _
    simp (disch := first | omega | assumption | exact rfl) only [U_92_0, XX, QQ, WW, KK, QX, SHs, RRs, Nat.reduceAdd, Nat.reduceMul, Nat.reduceLeDiff, Nat.reduceEqDiff, List.length_cons, List.length_nil, decide_true, decide_false, Bool.true_and, Bool.and_true, Bool.false_and, Bool.and_false, false_and, and_false, Bool.false_eq_true, Bool.true_eq_false, reduceCtorEq, eq_self, if_true, if_false, true_and, and_true, not_true_eq_false, not_false_eq_true, if_pos, if_neg, z_ite_not, false_or, or_false, true_or, or_true, SWs, swk_0, swk_1, SSs, FRs, r]
  · rw [n a (by omega), eM, S_I, vu_ne (by omega), vu_ne (by omega), vu_ne (by omega)]
  · rw [j a (by omega), eM, S_J, vu_ne (by omega), vu_ne (by omega), vu_ne (by omega)]
theorem row_162 : va_up (va_up (va_up nR 2 (some 163)) 3 (some 164)) 4 (some 165) = RR 162 := by
  funext k
  rcases k with _ | _ | _ | _ | _ | k
  all_goals rfl
theorem wa_162 {X : Nat × (Nat → Int32)} {d : Nat} {R : Nat → Nat → Option Nat} {I : Nat → Nat → Int32} {J : Nat → Nat → Int64} (hd : 5 ≤ d) (hR : R 162 = nR) : ∃ I' J', callF X d 92 [.ref 162] (mkS 163 R I J) = some (none, mkS 166 (fq R 162 166) I' J') ∧ (∀ a, a < 162 ∨ 166 ≤ a → I' a = I a) ∧ (∀ a, a < 162 ∨ 166 ≤ a → J' a = J a) ∧ J' 162 0 = lN 0 ∧ I' 162 1 = nI 0 ∧ ∀ i, i < 24 → I' 163 i = -1 := by
  obtain ⟨d, rfl⟩ : ∃ d', d = d' + 1 := ⟨d - 1, by omega⟩
  have q163 : RR 163 = nR := RR_nil rfl
  have q164 : RR 164 = nR := RR_nil rfl
  have q165 : RR 165 = nR := RR_nil rfl
  have s162 : SH 162 = (9, 5) := rfl
  have s163 : SH 163 = (20, 24) := rfl
  have s164 : SH 164 = (20, 24) := rfl
  have s165 : SH 165 = (20, 96) := rfl
  have ef : fr R 162 166 (va_up (va_up (va_up nR 2 (some 163)) 3 (some 164)) 4 (some 165)) = fq R 162 166 := fr_fq row_162 (by decide)
  obtain ⟨M, eM⟩ : ∃ M, M = mkS 166 (fr R 162 166 (va_up (va_up (va_up nR 2 (some 163)) 3 (some 164)) 4 (some 165))) (va_up (va_up (va_up I 163 zI) 164 zI) 165 zI) (va_up (va_up (va_up J 163 zJ) 164 zJ) 165 zJ) := ⟨_, rfl⟩
  have hW : WA M 162 := by rw [eM]; exact ⟨rfl, rfl, rfl, rfl, rfl, rfl, rfl⟩
  have r := s_raise (X := X) (d := d) (M := M) (by omega) hW (F := 0) (by decide) (by rw [pop_0]; decide)
  have b : ∀ i, i < 24 → m_I (Wend M 162 0) (162 + 1) i = -1 := fun i hi => by unfold Wend; rw [mw_I1]; exact if_pos hi
  have n : ∀ k, k < 162 ∨ 162 + 3 < k → m_I (Wend M 162 0) k = m_I M k := fun k hk => by unfold Wend; rw [mw_In hk]
  have j : ∀ k, k ≠ 162 → m_J (Wend M 162 0) k = m_J M k := fun k hk => by unfold Wend; rw [mw_Jn hk]
  have g := Wend_WG hW (F := 0) (by decide) (by rw [pop_0]; decide)
  have w : Wend M 162 0 = mkS 166 (fr R 162 166 (va_up (va_up (va_up nR 2 (some 163)) 3 (some 164)) 4 (some 165))) (m_I (Wend M 162 0)) (m_J (Wend M 162 0)) := by rw [eM]; rfl
  obtain ⟨g1, g2, g3, g4, g5, _⟩ := g
  refine ⟨m_I (Wend M 162 0), m_J (Wend M 162 0), ?_, fun a ha => ?_, fun a ha => ?_, g4, by rw [g5, pop_0], b⟩
  · rw [← ef, show mkS 163 R I J = mkS 163 (fr R 162 163 nR) I J from congrArg (fun z => mkS 163 z I J) (fr_0 hR), ← w]
    rw [eM] at r ⊢
    refine callF_of (by decide) (Nat.le_of_ble_eq_true rfl) ?_
    show Ev X d 92 0 [.ref 162] [] ( mkS 163 (fr R 162 163 nR) I J) _
    simp (disch := first | omega | assumption | exact rfl) only [U_92_0, XX, QQ, WW, KK, QX, SHs, RRs, Nat.reduceAdd, Nat.reduceMul, Nat.reduceLeDiff, Nat.reduceEqDiff, List.length_cons, List.length_nil, decide_true, decide_false, Bool.true_and, Bool.and_true, Bool.false_and, Bool.and_false, false_and, and_false, Bool.false_eq_true, Bool.true_eq_false, reduceCtorEq, eq_self, if_true, if_false, true_and, and_true, not_true_eq_false, not_false_eq_true, if_pos, if_neg, z_ite_not, false_or, or_false, true_or, or_true, SWs, swk_0, swk_1, SSs, FRs, r]
  · rw [n a (by omega), eM, S_I, vu_ne (by omega), vu_ne (by omega), vu_ne (by omega)]
  · rw [j a (by omega), eM, S_J, vu_ne (by omega), vu_ne (by omega), vu_ne (by omega)]
theorem row_173 : va_up (va_up (va_up nR 2 (some 174)) 3 (some 175)) 4 (some 176) = RR 173 := by
  funext k
  rcases k with _ | _ | _ | _ | _ | k
  all_goals rfl
theorem wa_173 {X : Nat × (Nat → Int32)} {d : Nat} {R : Nat → Nat → Option Nat} {I : Nat → Nat → Int32} {J : Nat → Nat → Int64} (hd : 5 ≤ d) (hR : R 173 = nR) : ∃ I' J', callF X d 92 [.ref 173] (mkS 174 R I J) = some (none, mkS 177 (fq R 173 177) I' J') ∧ (∀ a, a < 173 ∨ 177 ≤ a → I' a = I a) ∧ (∀ a, a < 173 ∨ 177 ≤ a → J' a = J a) ∧ J' 173 0 = lN 0 ∧ I' 173 1 = nI 0 ∧ ∀ i, i < 24 → I' 174 i = -1 := by
  obtain ⟨d, rfl⟩ : ∃ d', d = d' + 1 := ⟨d - 1, by omega⟩
  have q174 : RR 174 = nR := RR_nil rfl
  have q175 : RR 175 = nR := RR_nil rfl
  have q176 : RR 176 = nR := RR_nil rfl
  have s173 : SH 173 = (9, 5) := rfl
  have s174 : SH 174 = (20, 24) := rfl
  have s175 : SH 175 = (20, 24) := rfl
  have s176 : SH 176 = (20, 96) := rfl
  have ef : fr R 173 177 (va_up (va_up (va_up nR 2 (some 174)) 3 (some 175)) 4 (some 176)) = fq R 173 177 := fr_fq row_173 (by decide)
  obtain ⟨M, eM⟩ : ∃ M, M = mkS 177 (fr R 173 177 (va_up (va_up (va_up nR 2 (some 174)) 3 (some 175)) 4 (some 176))) (va_up (va_up (va_up I 174 zI) 175 zI) 176 zI) (va_up (va_up (va_up J 174 zJ) 175 zJ) 176 zJ) := ⟨_, rfl⟩
  have hW : WA M 173 := by rw [eM]; exact ⟨rfl, rfl, rfl, rfl, rfl, rfl, rfl⟩
  have r := s_raise (X := X) (d := d) (M := M) (by omega) hW (F := 0) (by decide) (by rw [pop_0]; decide)
  have b : ∀ i, i < 24 → m_I (Wend M 173 0) (173 + 1) i = -1 := fun i hi => by unfold Wend; rw [mw_I1]; exact if_pos hi
  have n : ∀ k, k < 173 ∨ 173 + 3 < k → m_I (Wend M 173 0) k = m_I M k := fun k hk => by unfold Wend; rw [mw_In hk]
  have j : ∀ k, k ≠ 173 → m_J (Wend M 173 0) k = m_J M k := fun k hk => by unfold Wend; rw [mw_Jn hk]
  have g := Wend_WG hW (F := 0) (by decide) (by rw [pop_0]; decide)
  have w : Wend M 173 0 = mkS 177 (fr R 173 177 (va_up (va_up (va_up nR 2 (some 174)) 3 (some 175)) 4 (some 176))) (m_I (Wend M 173 0)) (m_J (Wend M 173 0)) := by rw [eM]; rfl
  obtain ⟨g1, g2, g3, g4, g5, _⟩ := g
  refine ⟨m_I (Wend M 173 0), m_J (Wend M 173 0), ?_, fun a ha => ?_, fun a ha => ?_, g4, by rw [g5, pop_0], b⟩
  · rw [← ef, show mkS 174 R I J = mkS 174 (fr R 173 174 nR) I J from congrArg (fun z => mkS 174 z I J) (fr_0 hR), ← w]
    rw [eM] at r ⊢
    refine callF_of (by decide) (Nat.le_of_ble_eq_true rfl) ?_
    show Ev X d 92 0 [.ref 173] [] ( mkS 174 (fr R 173 174 nR) I J) _
    simp (disch := first | omega | assumption | exact rfl) only [U_92_0, XX, QQ, WW, KK, QX, SHs, RRs, Nat.reduceAdd, Nat.reduceMul, Nat.reduceLeDiff, Nat.reduceEqDiff, List.length_cons, List.length_nil, decide_true, decide_false, Bool.true_and, Bool.and_true, Bool.false_and, Bool.and_false, false_and, and_false, Bool.false_eq_true, Bool.true_eq_false, reduceCtorEq, eq_self, if_true, if_false, true_and, and_true, not_true_eq_false, not_false_eq_true, if_pos, if_neg, z_ite_not, false_or, or_false, true_or, or_true, SWs, swk_0, swk_1, SSs, FRs, r]
  · rw [n a (by omega), eM, S_I, vu_ne (by omega), vu_ne (by omega), vu_ne (by omega)]
  · rw [j a (by omega), eM, S_J, vu_ne (by omega), vu_ne (by omega), vu_ne (by omega)]
