/-! ===== constructors: the reference (gen81h.py) ===== -/
theorem row_177 : va_up (va_up (va_up (va_up (va_up (va_up (va_up (va_up (va_up (va_up (va_up (va_up (va_up (va_up (va_up (va_up (va_up (va_up (va_up (va_up (va_up (va_up (va_up nR 0 (some 178)) 1 (some 179)) 3 (some 180)) 4 (some 181)) 5 (some 182)) 6 (some 183)) 7 (some 184)) 8 (some 185)) 22 (some 186)) 23 (some 187)) 24 (some 188)) 25 (some 189)) 28 (some 190)) 29 (some 191)) 30 (some 192)) 31 (some 193)) 34 (some 194)) 35 (some 195)) 36 (some 196)) 41 (some 197)) 43 (some 198)) 44 (some 199)) 45 (some 200) = RR 177 := by
  funext k
  rcases k with _ | _ | _ | _ | _ | _ | _ | _ | _ | _ | _ | _ | _ | _ | _ | _ | _ | _ | _ | _ | _ | _ | _ | _ | _ | _ | _ | _ | _ | _ | _ | _ | _ | _ | _ | _ | _ | _ | _ | _ | _ | _ | _ | _ | _ | _ | k
  all_goals rfl
theorem S_mk {I : Nat → Nat → Int32} {J : Nat → Nat → Int64} : mkS 201 RR I J = mk I J := by
  have e1 : SHp 201 = SH := by
    funext a
    by_cases z : a < 201
    · exact if_pos z
    · refine (if_neg z).trans ?_
      show (99, 0) = shL.getD a (99, 0)
      rw [List.getD_eq_getElem?_getD, List.getElem?_eq_none (by rw [show shL.length = 201 by decide +kernel]; omega)]
      rfl
  have e2 : ZP 201 = ZZ := by decide +kernel
  show (201, ZP 201, SHp 201, RR, I, J) = (NN, ZZ, SH, RR, I, J)
  rw [e1, e2]; rfl
theorem fq_all {R : Nat → Nat → Option Nat} {w e : Nat} (h : ∀ a, a < w ∨ e ≤ a → R a = RR a) : fq R w e = RR := by
  funext a
  show (if w ≤ a ∧ a < e then RR a else R a) = RR a
  by_cases z : w ≤ a ∧ a < e
  · rw [if_pos z]
  · rw [if_neg z]; exact h a (by omega)
theorem RR_out {a : Nat} (h : 201 ≤ a) : RR a = nR := RR_nil (by
  rw [List.getD_eq_getElem?_getD, List.getElem?_eq_none (by have : rrL.length ≤ 201 := by decide +kernel
                                                            omega)]
  rfl)
/-- the reference's rows of minus ones -/
theorem mo_fill {X : Nat × (Nat → Int32)} {I : Nat → Nat → Int32} {J : Nat → Nat → Int64} : ∃ g, (∀ i, i < 144 → g (668 + i) = -1) ∧ (∀ i, i < 576 → g (850 + i) = -1) ∧ (∀ x, ¬ (668 ≤ x ∧ x < 812) → ¬ (850 ≤ x ∧ x < 1426) → g x = I 178 x) ∧ ∀ d, Ev X d 154 1 [.ref 177, .int (nI 0)] [] (mk I J) (none, mk (va_up I 178 g) J) := by
  have l2 : ∀ i, i ≤ 576 → ∀ g : Nat → Int32, (∀ j, j < i → g (850 + j) = -1) → ∃ g', (∀ j, j < 576 → g' (850 + j) = -1) ∧ (∀ x, ¬ (850 ≤ x ∧ x < 1426) → g' x = g x) ∧ ∀ d, Ev X d 154 4 [.ref 177, .int (nI i)] [] (mk (va_up I 178 g) J) (none, mk (va_up I 178 g') J) := by
    refine lpd (n := 576) (fun g hg => ⟨g, hg, fun _ _ => rfl, fun d => ?_⟩) (fun i hi ih g hg => ?_)
    · simp (disch := first | omega | assumption | exact rfl) only [U_154_4, U_154_6, XX, QQ, WW, KK, QX, SHs, RRs, Nat.reduceAdd, Nat.reduceMul, Nat.reduceLeDiff, Nat.reduceEqDiff, List.length_cons, List.length_nil, decide_true, decide_false, Bool.true_and, Bool.and_true, Bool.false_and, Bool.and_false, false_and, and_false, Bool.false_eq_true, Bool.true_eq_false, reduceCtorEq, eq_self, if_true, if_false, true_and, and_true, not_true_eq_false, not_false_eq_true, if_pos, if_neg, z_ite_not, false_or, or_false, true_or, or_true, SWs, swk_0, swk_1]
    · obtain ⟨g', p1, p2, p3⟩ := ih (va_up g (850 + i) (-1)) (fun j hj => by
        by_cases z : j = i
        · subst z; rw [vu_eq]
        · rw [vu_ne (by omega)]; exact hg j (by omega))
      refine ⟨g', p1, fun x hx => by rw [p2 x hx, vu_ne (by omega)], fun d => ?_⟩
      have H := p3 d
      rw [U_154_4]
      simp (disch := first | omega | assumption | exact rfl) only [U_154_5, XX, QQ, WW, KK, QX, SHs, RRs, Nat.reduceAdd, Nat.reduceMul, Nat.reduceLeDiff, Nat.reduceEqDiff, List.length_cons, List.length_nil, decide_true, decide_false, Bool.true_and, Bool.and_true, Bool.false_and, Bool.and_false, false_and, and_false, Bool.false_eq_true, Bool.true_eq_false, reduceCtorEq, eq_self, if_true, if_false, true_and, and_true, not_true_eq_false, not_false_eq_true, if_pos, if_neg, z_ite_not, false_or, or_false, true_or, or_true, SWs, swk_0, swk_1]
      exact H
  have l1 : ∀ i, i ≤ 144 → ∀ g : Nat → Int32, (∀ j, j < i → g (668 + j) = -1) → ∃ g', (∀ j, j < 144 → g' (668 + j) = -1) ∧ (∀ x, ¬ (668 ≤ x ∧ x < 812) → g' x = g x) ∧ ∀ d r, Ev X d 154 3 [.ref 177, .int (nI 144)] [] (mk (va_up I 178 g') J) r → Ev X d 154 1 [.ref 177, .int (nI i)] [] (mk (va_up I 178 g) J) r := by
    refine lpd (n := 144) (fun g hg => ⟨g, hg, fun _ _ => rfl, fun d r Hr => ?_⟩) (fun i hi ih g hg => ?_)
    · simp (disch := first | omega | assumption | exact rfl) only [U_154_1, XX, QQ, WW, KK, QX, SHs, RRs, Nat.reduceAdd, Nat.reduceMul, Nat.reduceLeDiff, Nat.reduceEqDiff, List.length_cons, List.length_nil, decide_true, decide_false, Bool.true_and, Bool.and_true, Bool.false_and, Bool.and_false, false_and, and_false, Bool.false_eq_true, Bool.true_eq_false, reduceCtorEq, eq_self, if_true, if_false, true_and, and_true, not_true_eq_false, not_false_eq_true, if_pos, if_neg, z_ite_not, false_or, or_false, true_or, or_true, SWs, swk_0, swk_1]
      exact Hr
    · obtain ⟨g', p1, p2, p3⟩ := ih (va_up g (668 + i) (-1)) (fun j hj => by
        by_cases z : j = i
        · subst z; rw [vu_eq]
        · rw [vu_ne (by omega)]; exact hg j (by omega))
      refine ⟨g', p1, fun x hx => by rw [p2 x hx, vu_ne (by omega)], fun d r Hr => ?_⟩
      have H := p3 d r Hr
      rw [U_154_1]
      simp (disch := first | omega | assumption | exact rfl) only [U_154_2, XX, QQ, WW, KK, QX, SHs, RRs, Nat.reduceAdd, Nat.reduceMul, Nat.reduceLeDiff, Nat.reduceEqDiff, List.length_cons, List.length_nil, decide_true, decide_false, Bool.true_and, Bool.and_true, Bool.false_and, Bool.and_false, false_and, and_false, Bool.false_eq_true, Bool.true_eq_false, reduceCtorEq, eq_self, if_true, if_false, true_and, and_true, not_true_eq_false, not_false_eq_true, if_pos, if_neg, z_ite_not, false_or, or_false, true_or, or_true, SWs, swk_0, swk_1]
      exact H
  obtain ⟨g1, a1, a2, a3⟩ := l1 0 (Nat.zero_le _) (I 178) (fun j hj => absurd hj (Nat.not_lt_zero j))
  obtain ⟨g2, b1, b2, b3⟩ := l2 0 (Nat.zero_le _) g1 (fun j hj => absurd hj (Nat.not_lt_zero j))
  refine ⟨g2, fun i hi => by rw [b2 _ (by omega)]; exact a1 i hi, b1, fun x h1 h2 => by rw [b2 x h2, a2 x h1], fun d => ?_⟩
  have H := a3 d (none, mk (va_up I 178 g2) J) (by
    have H2 := b3 d
    simp (disch := first | omega | assumption | exact rfl) only [U_154_3, XX, QQ, WW, KK, QX, SHs, RRs, Nat.reduceAdd, Nat.reduceMul, Nat.reduceLeDiff, Nat.reduceEqDiff, List.length_cons, List.length_nil, decide_true, decide_false, Bool.true_and, Bool.and_true, Bool.false_and, Bool.and_false, false_and, and_false, Bool.false_eq_true, Bool.true_eq_false, reduceCtorEq, eq_self, if_true, if_false, true_and, and_true, not_true_eq_false, not_false_eq_true, if_pos, if_neg, z_ite_not, false_or, or_false, true_or, or_true, SWs, swk_0, swk_1]
    exact H2)
  rw [vu_id] at H
  exact H
theorem mo_177 {X : Nat × (Nat → Int32)} {d : Nat} {R : Nat → Nat → Option Nat} {I : Nat → Nat → Int32} {J : Nat → Nat → Int64} (hd : 1 ≤ d) (hR : R 177 = nR) (hA : ∀ a, a < 177 ∨ 201 ≤ a → R a = RR a) : ∃ I' J', callF X d 154 [.ref 177] (mkS 178 R I J) = some (none, mk I' J') ∧ (∀ a, a < 177 → I' a = I a) ∧ (∀ a, a < 177 → J' a = J a) ∧ I' 177 = va_up (I 177) 21 (-1) ∧ (∀ i, i < 144 → I' 178 (668 + i) = -1) ∧ (∀ i, i < 576 → I' 178 (850 + i) = -1) ∧ ∀ x, ¬ (668 ≤ x ∧ x < 812) → ¬ (850 ≤ x ∧ x < 1426) → I' 178 x = 0 := by
  obtain ⟨d, rfl⟩ : ∃ d', d = d' + 1 := ⟨d - 1, by omega⟩
  have q178 : RR 178 = nR := RR_nil rfl
  have q179 : RR 179 = nR := RR_nil rfl
  have q180 : RR 180 = nR := RR_nil rfl
  have q181 : RR 181 = nR := RR_nil rfl
  have q182 : RR 182 = nR := RR_nil rfl
  have q183 : RR 183 = nR := RR_nil rfl
  have q184 : RR 184 = nR := RR_nil rfl
  have q185 : RR 185 = nR := RR_nil rfl
  have q186 : RR 186 = nR := RR_nil rfl
  have q187 : RR 187 = nR := RR_nil rfl
  have q188 : RR 188 = nR := RR_nil rfl
  have q189 : RR 189 = nR := RR_nil rfl
  have q190 : RR 190 = nR := RR_nil rfl
  have q191 : RR 191 = nR := RR_nil rfl
  have q192 : RR 192 = nR := RR_nil rfl
  have q193 : RR 193 = nR := RR_nil rfl
  have q194 : RR 194 = nR := RR_nil rfl
  have q195 : RR 195 = nR := RR_nil rfl
  have q196 : RR 196 = nR := RR_nil rfl
  have q197 : RR 197 = nR := RR_nil rfl
  have q198 : RR 198 = nR := RR_nil rfl
  have q199 : RR 199 = nR := RR_nil rfl
  have q200 : RR 200 = nR := RR_nil rfl
  have s177 : SH 177 = (12, 46) := rfl
  have s178 : SH 178 = (20, 7160) := rfl
  have s179 : SH 179 = (20, 7160) := rfl
  have s180 : SH 180 = (20, 64) := rfl
  have s181 : SH 181 = (20, 820) := rfl
  have s182 : SH 182 = (20, 400) := rfl
  have s183 : SH 183 = (20, 420) := rfl
  have s184 : SH 184 = (20, 6) := rfl
  have s185 : SH 185 = (22, 64) := rfl
  have s186 : SH 186 = (20, 24) := rfl
  have s187 : SH 187 = (20, 24) := rfl
  have s188 : SH 188 = (20, 24) := rfl
  have s189 : SH 189 = (20, 24) := rfl
  have s190 : SH 190 = (20, 24) := rfl
  have s191 : SH 191 = (20, 24) := rfl
  have s192 : SH 192 = (20, 24) := rfl
  have s193 : SH 193 = (20, 24) := rfl
  have s194 : SH 194 = (22, 24) := rfl
  have s195 : SH 195 = (22, 24) := rfl
  have s196 : SH 196 = (20, 7) := rfl
  have s197 : SH 197 = (20, 24) := rfl
  have s198 : SH 198 = (20, 24) := rfl
  have s199 : SH 199 = (20, 24) := rfl
  have s200 : SH 200 = (20, 24) := rfl
  obtain ⟨Ia, eIa⟩ : ∃ Ia, Ia = va_up (va_up (va_up (va_up (va_up (va_up (va_up (va_up I 178 zI) 179 zI) 180 zI) 181 zI) 182 zI) 183 zI) 184 zI) 185 zI := ⟨_, rfl⟩
  have a177 : Ia 177 = I 177 := by rw [eIa, vu_ne (by decide), vu_ne (by decide), vu_ne (by decide), vu_ne (by decide), vu_ne (by decide), vu_ne (by decide), vu_ne (by decide), vu_ne (by decide)]
  have a178 : Ia 178 = zI := by rw [eIa, vu_ne (by decide), vu_ne (by decide), vu_ne (by decide), vu_ne (by decide), vu_ne (by decide), vu_ne (by decide), vu_ne (by decide), vu_eq]
  have aI : ∀ a, a < 177 → Ia a = I a := fun a ha => by rw [eIa, vu_ne (by omega), vu_ne (by omega), vu_ne (by omega), vu_ne (by omega), vu_ne (by omega), vu_ne (by omega), vu_ne (by omega), vu_ne (by omega)]
  obtain ⟨Ib, eIb⟩ : ∃ Ib, Ib = va_up (va_up (va_up (va_up (va_up (va_up (va_up (va_up (va_up (va_up (va_up (va_up (va_up (va_up (va_up (va_up Ia 177 (va_up (I 177) 21 (-1))) 186 zI) 187 zI) 188 zI) 189 zI) 190 zI) 191 zI) 192 zI) 193 zI) 194 zI) 195 zI) 196 zI) 197 zI) 198 zI) 199 zI) 200 zI := ⟨_, rfl⟩
  have b177 : Ib 177 = va_up (I 177) 21 (-1) := by rw [eIb, vu_ne (by decide), vu_ne (by decide), vu_ne (by decide), vu_ne (by decide), vu_ne (by decide), vu_ne (by decide), vu_ne (by decide), vu_ne (by decide), vu_ne (by decide), vu_ne (by decide), vu_ne (by decide), vu_ne (by decide), vu_ne (by decide), vu_ne (by decide), vu_ne (by decide), vu_eq]
  have b178 : Ib 178 = zI := by rw [eIb, vu_ne (by decide), vu_ne (by decide), vu_ne (by decide), vu_ne (by decide), vu_ne (by decide), vu_ne (by decide), vu_ne (by decide), vu_ne (by decide), vu_ne (by decide), vu_ne (by decide), vu_ne (by decide), vu_ne (by decide), vu_ne (by decide), vu_ne (by decide), vu_ne (by decide), vu_ne (by decide), a178]
  have bI' : ∀ a, a < 177 → Ib a = I a := fun a ha => by rw [eIb, vu_ne (by omega), vu_ne (by omega), vu_ne (by omega), vu_ne (by omega), vu_ne (by omega), vu_ne (by omega), vu_ne (by omega), vu_ne (by omega), vu_ne (by omega), vu_ne (by omega), vu_ne (by omega), vu_ne (by omega), vu_ne (by omega), vu_ne (by omega), vu_ne (by omega), vu_ne (by omega), aI a ha]
  obtain ⟨Jb, eJb⟩ : ∃ Jb, Jb = va_up (va_up (va_up (va_up (va_up (va_up (va_up (va_up (va_up (va_up (va_up (va_up (va_up (va_up (va_up (va_up (va_up (va_up (va_up (va_up (va_up (va_up (va_up J 178 zJ) 179 zJ) 180 zJ) 181 zJ) 182 zJ) 183 zJ) 184 zJ) 185 zJ) 186 zJ) 187 zJ) 188 zJ) 189 zJ) 190 zJ) 191 zJ) 192 zJ) 193 zJ) 194 zJ) 195 zJ) 196 zJ) 197 zJ) 198 zJ) 199 zJ) 200 zJ := ⟨_, rfl⟩
  have bJ : ∀ a, a < 177 → Jb a = J a := fun a ha => by rw [eJb, vu_ne (by omega), vu_ne (by omega), vu_ne (by omega), vu_ne (by omega), vu_ne (by omega), vu_ne (by omega), vu_ne (by omega), vu_ne (by omega), vu_ne (by omega), vu_ne (by omega), vu_ne (by omega), vu_ne (by omega), vu_ne (by omega), vu_ne (by omega), vu_ne (by omega), vu_ne (by omega), vu_ne (by omega), vu_ne (by omega), vu_ne (by omega), vu_ne (by omega), vu_ne (by omega), vu_ne (by omega), vu_ne (by omega)]
  have ef : fr R 177 201 (va_up (va_up (va_up (va_up (va_up (va_up (va_up (va_up (va_up (va_up (va_up (va_up (va_up (va_up (va_up (va_up (va_up (va_up (va_up (va_up (va_up (va_up (va_up nR 0 (some 178)) 1 (some 179)) 3 (some 180)) 4 (some 181)) 5 (some 182)) 6 (some 183)) 7 (some 184)) 8 (some 185)) 22 (some 186)) 23 (some 187)) 24 (some 188)) 25 (some 189)) 28 (some 190)) 29 (some 191)) 30 (some 192)) 31 (some 193)) 34 (some 194)) 35 (some 195)) 36 (some 196)) 41 (some 197)) 43 (some 198)) 44 (some 199)) 45 (some 200)) = RR := (fr_fq row_177 (by decide)).trans (fq_all hA)
  obtain ⟨g, g1, g2, g3, H⟩ := mo_fill (X := X) (I := Ib) (J := Jb)
  refine ⟨va_up Ib 178 g, Jb, ?_, fun a ha => by rw [vu_ne (by omega), bI' a ha], bJ, by rw [vu_ne (by decide), b177], fun i hi => by rw [vu_eq]; exact g1 i hi, fun i hi => by rw [vu_eq]; exact g2 i hi, fun x h1 h2 => by rw [vu_eq, g3 x h1 h2, b178]; rfl⟩
  rw [show mkS 178 R I J = mkS 178 (fr R 177 178 nR) I J from congrArg (fun z => mkS 178 z I J) (fr_0 hR)]
  refine callF_of (by decide) (Nat.le_of_ble_eq_true rfl) ?_
  show Ev X d 154 0 [.ref 177, .retAddr 0] [] ( mkS 178 (fr R 177 178 nR) I J) _
  have H1 := H d
  rw [← S_mk, ← ef, eIb, eJb, eIa] at H1
  rw [eIb, eJb, eIa]
  simp (disch := first | omega | assumption | exact rfl) only [U_154_0, XX, QQ, WW, KK, QX, SHs, RRs, Nat.reduceAdd, Nat.reduceMul, Nat.reduceLeDiff, Nat.reduceEqDiff, List.length_cons, List.length_nil, decide_true, decide_false, Bool.true_and, Bool.and_true, Bool.false_and, Bool.and_false, false_and, and_false, Bool.false_eq_true, Bool.true_eq_false, reduceCtorEq, eq_self, if_true, if_false, true_and, and_true, not_true_eq_false, not_false_eq_true, if_pos, if_neg, z_ite_not, false_or, or_false, true_or, or_true, SWs, swk_0, swk_1, SSs, FRs]
  exact H1
