/-! ===== constructors: the class itself (gen81.py) ===== -/
theorem row_0 : va_up (va_up (va_up (va_up (va_up (va_up (va_up (va_up (va_up (va_up nR 0 (some 1)) 1 (some 62)) 3 (some 123)) 5 (some 124)) 6 (some 137)) 7 (some 140)) 8 (some 158)) 9 (some 161)) 10 (some 171)) 11 (some 173) = RR 0 := by
  funext k
  rcases k with _ | _ | _ | _ | _ | _ | _ | _ | _ | _ | _ | _ | k
  all_goals rfl
/-- what the first world holds at the start -/
def WC (I : Nat → Nat → Int32) (J : Nat → Nat → Int64) : Prop := I 1 = zI ∧ I 2 = zI ∧ I 3 = zI ∧ J 4 = zJ ∧ (∀ i, i < 576 → I 7 i = -1) ∧ I 8 = zI ∧ J 14 0 = lN 0 ∧ I 14 1 = nI 0 ∧ (∀ i, i < 24 → I 15 i = -1) ∧ J 18 0 = lN 0 ∧ I 18 1 = nI 0 ∧ (∀ i, i < 24 → I 19 i = -1) ∧ J 22 0 = lN 0 ∧ I 22 1 = nI 0 ∧ (∀ i, i < 24 → I 23 i = -1) ∧ J 26 0 = lN 0 ∧ I 26 1 = nI 0 ∧ (∀ i, i < 24 → I 27 i = -1) ∧ J 30 0 = lN 0 ∧ I 30 1 = nI 0 ∧ (∀ i, i < 24 → I 31 i = -1) ∧ J 34 0 = lN 0 ∧ I 34 1 = nI 0 ∧ (∀ i, i < 24 → I 35 i = -1) ∧ I 38 = zI ∧ I 46 = zI ∧ I 54 = zI
theorem WC_fr {I I' : Nat → Nat → Int32} {J J' : Nat → Nat → Int64} (hI : ∀ a, 1 ≤ a → a < 62 → I' a = I a) (hJ : ∀ a, 1 ≤ a → a < 62 → J' a = J a) (h : WC I J) : WC I' J' := by
  unfold WC
  rw [hI 1 (by decide) (by decide), hI 2 (by decide) (by decide), hI 3 (by decide) (by decide), hI 7 (by decide) (by decide), hI 8 (by decide) (by decide), hI 14 (by decide) (by decide), hI 15 (by decide) (by decide), hI 18 (by decide) (by decide), hI 19 (by decide) (by decide), hI 22 (by decide) (by decide), hI 23 (by decide) (by decide), hI 26 (by decide) (by decide), hI 27 (by decide) (by decide), hI 30 (by decide) (by decide), hI 31 (by decide) (by decide), hI 34 (by decide) (by decide), hI 35 (by decide) (by decide), hI 38 (by decide) (by decide), hI 46 (by decide) (by decide), hI 54 (by decide) (by decide), hJ 4 (by decide) (by decide), hJ 14 (by decide) (by decide), hJ 18 (by decide) (by decide), hJ 22 (by decide) (by decide), hJ 26 (by decide) (by decide), hJ 30 (by decide) (by decide), hJ 34 (by decide) (by decide)]
  exact h
theorem ol_0 {X : Nat × (Nat → Int32)} {d : Nat} {R : Nat → Nat → Option Nat} {I : Nat → Nat → Int32} {J : Nat → Nat → Int64} (hd : 7 ≤ d) (hR : R 0 = nR) : ∃ I' J', callF X d 112 [.ref 0] (mkS 1 R I J) = some (none, mkS 177 (fq R 0 177) I' J') ∧ (∀ a, 177 ≤ a → I' a = I a) ∧ I' 0 = I 0 ∧ WC I' J' ∧ I' 124 1 = 0 ∧ I' 124 2 = -1 := by
  obtain ⟨d, rfl⟩ : ∃ d', d = d' + 1 := ⟨d - 1, by omega⟩
  have q123 : RR 123 = nR := RR_nil rfl
  have s0 : SH 0 = (11, 12) := rfl
  have s1 : SH 1 = (10, 12) := rfl
  have s62 : SH 62 = (10, 12) := rfl
  have s123 : SH 123 = (20, 400) := rfl
  have s124 : SH 124 = (5, 5) := rfl
  have s137 : SH 137 = (3, 6) := rfl
  have s140 : SH 140 = (0, 10) := rfl
  have s158 : SH 158 = (4, 2) := rfl
  have s161 : SH 161 = (2, 10) := rfl
  have s171 : SH 171 = (7, 5) := rfl
  have s173 : SH 173 = (9, 5) := rfl
  obtain ⟨I1, J1, e1, f1, g1, c1⟩ := wo_1 (X := X) (d := d) (R := va_up (fr R 0 1 (nR)) 1 nR) (I := va_up I 1 zI) (J := va_up J 1 zJ) (by omega) vu_eq
  rw [fr_ch (by decide) (by decide)] at e1
  obtain ⟨I2, J2, e2, f2, g2, c2⟩ := wo_62 (X := X) (d := d) (R := va_up (fr R 0 62 (va_up nR 0 (some 1))) 62 nR) (I := va_up I1 62 zI) (J := va_up J1 62 zJ) (by omega) vu_eq
  rw [fr_ch (by decide) (by decide)] at e2
  obtain ⟨I3, J3, e3, f3, g3, c3⟩ := re_124 (X := X) (d := d) (R := va_up (fr R 0 124 (va_up (va_up (va_up nR 0 (some 1)) 1 (some 62)) 3 (some 123))) 124 nR) (I := va_up (va_up I2 123 zI) 124 zI) (J := va_up (va_up J2 123 zJ) 124 zJ) (by omega) vu_eq
  rw [fr_ch (by decide) (by decide)] at e3
  obtain ⟨I4, J4, e4, f4, g4, c4⟩ := ne_137 (X := X) (d := d) (R := va_up (fr R 0 137 (va_up (va_up (va_up (va_up nR 0 (some 1)) 1 (some 62)) 3 (some 123)) 5 (some 124))) 137 nR) (I := va_up I3 137 zI) (J := va_up J3 137 zJ) (by omega) vu_eq
  rw [fr_ch (by decide) (by decide)] at e4
  obtain ⟨I5, J5, e5, f5, g5, c5⟩ := bu_140 (X := X) (d := d) (R := va_up (fr R 0 140 (va_up (va_up (va_up (va_up (va_up nR 0 (some 1)) 1 (some 62)) 3 (some 123)) 5 (some 124)) 6 (some 137))) 140 nR) (I := va_up I4 140 zI) (J := va_up J4 140 zJ) (by omega) vu_eq
  rw [fr_ch (by decide) (by decide)] at e5
  obtain ⟨I6, J6, e6, f6, g6, c6⟩ := pa_158 (X := X) (d := d) (R := va_up (fr R 0 158 (va_up (va_up (va_up (va_up (va_up (va_up nR 0 (some 1)) 1 (some 62)) 3 (some 123)) 5 (some 124)) 6 (some 137)) 7 (some 140))) 158 nR) (I := va_up I5 158 zI) (J := va_up J5 158 zJ) (by omega) vu_eq
  rw [fr_ch (by decide) (by decide)] at e6
  obtain ⟨I7, J7, e7, f7, g7, c7⟩ := la_161 (X := X) (d := d) (R := va_up (fr R 0 161 (va_up (va_up (va_up (va_up (va_up (va_up (va_up nR 0 (some 1)) 1 (some 62)) 3 (some 123)) 5 (some 124)) 6 (some 137)) 7 (some 140)) 8 (some 158))) 161 nR) (I := va_up I6 161 zI) (J := va_up J6 161 zJ) (by omega) vu_eq
  rw [fr_ch (by decide) (by decide)] at e7
  obtain ⟨I8, J8, e8, f8, g8, c8⟩ := se_171 (X := X) (d := d) (R := va_up (fr R 0 171 (va_up (va_up (va_up (va_up (va_up (va_up (va_up (va_up nR 0 (some 1)) 1 (some 62)) 3 (some 123)) 5 (some 124)) 6 (some 137)) 7 (some 140)) 8 (some 158)) 9 (some 161))) 171 nR) (I := va_up I7 171 zI) (J := va_up J7 171 zJ) (by omega) vu_eq
  rw [fr_ch (by decide) (by decide)] at e8
  obtain ⟨I9, J9, e9, f9, g9, c9⟩ := wa_173 (X := X) (d := d) (R := va_up (fr R 0 173 (va_up (va_up (va_up (va_up (va_up (va_up (va_up (va_up (va_up nR 0 (some 1)) 1 (some 62)) 3 (some 123)) 5 (some 124)) 6 (some 137)) 7 (some 140)) 8 (some 158)) 9 (some 161)) 10 (some 171))) 173 nR) (I := va_up I8 173 zI) (J := va_up J8 173 zJ) (by omega) vu_eq
  rw [fr_ch (by decide) (by decide)] at e9
  have ef : fr R 0 177 (va_up (va_up (va_up (va_up (va_up (va_up (va_up (va_up (va_up (va_up nR 0 (some 1)) 1 (some 62)) 3 (some 123)) 5 (some 124)) 6 (some 137)) 7 (some 140)) 8 (some 158)) 9 (some 161)) 10 (some 171)) 11 (some 173)) = fq R 0 177 := fr_fq row_0 (by decide)
  refine ⟨I9, J9, ?_, fun a ha => ?_, ?_, ?_, ?_, ?_⟩
  · rw [← ef, show mkS 1 R I J = mkS 1 (fr R 0 1 nR) I J from congrArg (fun z => mkS 1 z I J) (fr_0 hR)]
    refine callF_of (by decide) (Nat.le_of_ble_eq_true rfl) ?_
    show Ev X d 112 0 [.ref 0] [] ( mkS 1 (fr R 0 1 nR) I J) _
    simp (disch := first | omega | assumption | exact rfl) only [U_112_0, XX, QQ, WW, KK, QX, SHs, RRs, Nat.reduceAdd, Nat.reduceMul, Nat.reduceLeDiff, Nat.reduceEqDiff, List.length_cons, List.length_nil, decide_true, decide_false, Bool.true_and, Bool.and_true, Bool.false_and, Bool.and_false, false_and, and_false, Bool.false_eq_true, Bool.true_eq_false, reduceCtorEq, eq_self, if_true, if_false, true_and, and_true, not_true_eq_false, not_false_eq_true, if_pos, if_neg, z_ite_not, false_or, or_false, true_or, or_true, SWs, swk_0, swk_1, SSs, FRs, e1, e2, e3, e4, e5, e6, e7, e8, e9]
  · rw [f9 a (by omega), vu_ne (by omega), f8 a (by omega), vu_ne (by omega), f7 a (by omega), vu_ne (by omega), f6 a (by omega), vu_ne (by omega), f5 a (by omega), vu_ne (by omega), f4 a (by omega), vu_ne (by omega), f3 a (by omega), vu_ne (by omega), vu_ne (by omega), f2 a (by omega), vu_ne (by omega), f1 a (by omega), vu_ne (by omega)]
  · rw [f9 0 (by omega), vu_ne (by omega), f8 0 (by omega), vu_ne (by omega), f7 0 (by omega), vu_ne (by omega), f6 0 (by omega), vu_ne (by omega), f5 0 (by omega), vu_ne (by omega), f4 0 (by omega), vu_ne (by omega), f3 0 (by omega), vu_ne (by omega), vu_ne (by omega), f2 0 (by omega), vu_ne (by omega), f1 0 (by omega), vu_ne (by omega)]
  · refine WC_fr (I := I1) (J := J1) (fun a h1 h2 => ?_) (fun a h1 h2 => ?_) ?_
    · rw [f9 a (by omega), vu_ne (by omega), f8 a (by omega), vu_ne (by omega), f7 a (by omega), vu_ne (by omega), f6 a (by omega), vu_ne (by omega), f5 a (by omega), vu_ne (by omega), f4 a (by omega), vu_ne (by omega), f3 a (by omega), vu_ne (by omega), vu_ne (by omega), f2 a (by omega), vu_ne (by omega)]
    · rw [g9 a (by omega), vu_ne (by omega), g8 a (by omega), vu_ne (by omega), g7 a (by omega), vu_ne (by omega), g6 a (by omega), vu_ne (by omega), g5 a (by omega), vu_ne (by omega), g4 a (by omega), vu_ne (by omega), g3 a (by omega), vu_ne (by omega), vu_ne (by omega), g2 a (by omega), vu_ne (by omega)]
    · rw [vu_eq] at c1
      exact c1
  · rw [f9 124 (by omega), vu_ne (by omega), f8 124 (by omega), vu_ne (by omega), f7 124 (by omega), vu_ne (by omega), f6 124 (by omega), vu_ne (by omega), f5 124 (by omega), vu_ne (by omega), f4 124 (by omega), vu_ne (by omega), c3.1, vu_eq]; rfl
  · rw [f9 124 (by omega), vu_ne (by omega), f8 124 (by omega), vu_ne (by omega), f7 124 (by omega), vu_ne (by omega), f6 124 (by omega), vu_ne (by omega), f5 124 (by omega), vu_ne (by omega), f4 124 (by omega), vu_ne (by omega), c3.2]
