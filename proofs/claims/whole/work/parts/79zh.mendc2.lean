/-! ===== mending: the class's rounds ===== -/
theorem swp_same {b : Nat → Int32} {i j : Nat} (h : b i = b j) : swp b i j = b := by
  unfold swp
  rw [← h, vu_same rfl]
  exact vu_same h.symm
theorem btr_irr {F1 F2 al : Nat} {B1 B : Nat → Int32} {mks : Nat → Nat} : ¬ btr F1 B1 F2 al mks B B := by unfold btr; omega
theorem c_exchangeFirst {X : Nat × (Nat → Int32)} {d : Nat} {I : Nat → Nat → Int32} {J : Nat → Nat → Int64} {F1 F2 al : Nat} {B1 B : Nat → Int32} {mks : Nat → Nat} (hd : 4 ≤ d) (hW : WG (mk I J) 145 F2) (hE : I 146 = B) (hB : WB B (pop F2)) (hL : LN I 149 F1 B1 al mks) (hm4 : ∀ k, k < 24 → mks k < 4) (hw : ∀ c, c < pop F2 → I 157 c = iI (wgt F1 B1 F2 B al mks c)) :
    callF X d 21 [.ref 140] (mk I J) = some (some (.int (bI (decide (fp F1 B1 F2 al mks B < 576)))), mk (if fp F1 B1 F2 al mks B < 576 then va_up I 146 (swp B (fp F1 B1 F2 al mks B / 24) (fp F1 B1 F2 al mks B % 24)) else I) J) := by
  have h24 := hW.2.2.1
  have c1 : I 145 1 = nI (pop F2) := hW.2.2.2.2.1
  obtain ⟨d, rfl⟩ : ∃ d', d = d' + 1 := ⟨d - 1, by omega⟩
  refine callF_at (by omega) (by decide) (Nat.le_of_ble_eq_true rfl) (fun d' hd' => ?_)
  obtain rfl : d = d' := by omega
  show Ev X d 21 0 [.ref 140, .retAddr 0, .retAddr 0, .retAddr 0, .retAddr 0] [] (mk I J) _
  obtain ⟨R, eR⟩ : ∃ R : Option Value × Mem, R = (some (.int (bI (decide (fp F1 B1 F2 al mks B < 576)))), mk (if fp F1 B1 F2 al mks B < 576 then va_up I 146 (swp B (fp F1 B1 F2 al mks B / 24) (fp F1 B1 F2 al mks B % 24)) else I) J) := ⟨_, rfl⟩
  rw [← eR]
  have lp : ∀ u2 u3 u4 : Value, Ev X d 21 1 [.ref 140, .int (nI 0), u2, u3, u4] [] (mk I J) R := by
    refine lpI (n := pop F2) (P := fun i => (∀ k, k < 24 * i → tstE F1 B1 F2 al mks B k = false) → ∀ u2 u3 u4 : Value, Ev X d 21 1 [.ref 140, .int (nI i), u2, u3, u4] [] (mk I J) R) ?_ ?_ (fun Q => Q (fun k hk => by omega))
    · intro no u2 u3 u4
      have nf := fp_no h24 no
      rw [eR, if_neg nf, decide_eq_false nf, U_21_1]
      simp (disch := first | omega | assumption | exact rfl) only [U_21_13, XX, QQ, WW, KK, QX, SHs, RRs, Nat.reduceAdd, Nat.reduceMul, Nat.reduceLeDiff, Nat.reduceEqDiff, List.length_cons, List.length_nil, decide_true, decide_false, Bool.true_and, Bool.and_true, Bool.false_and, Bool.and_false, false_and, and_false, Bool.false_eq_true, Bool.true_eq_false, reduceCtorEq, eq_self, if_true, if_false, true_and, and_true, not_true_eq_false, not_false_eq_true, if_pos, if_neg, z_ite_not, false_or, or_false, true_or, or_true, SWs, swk_0, swk_1, c1]
    · intro i hi ih no u2 u3 u4
      have i24 : i < 24 := by omega
      have wi := s_withTouching (X := X) (d := d) (W := 145) (by omega) hW hi
      obtain ⟨ti, eti⟩ : ∃ ti, ti = wtc F2 i := ⟨_, rfl⟩
      rw [← eti] at wi
      have inner : ∀ j, j ≤ pop F2 → i < j → (∀ k, k < 24 * i + j → tstE F1 B1 F2 al mks B k = false) → ∀ u4 : Value, Ev X d 21 3 [.ref 140, .int (nI i), .int (nI ti), .int (nI j), u4] [] (mk I J) R := by
        refine lpd (n := pop F2) (P := fun j => i < j → (∀ k, k < 24 * i + j → tstE F1 B1 F2 al mks B k = false) → ∀ u4 : Value, Ev X d 21 3 [.ref 140, .int (nI i), .int (nI ti), .int (nI j), u4] [] (mk I J) R) ?_ ?_
        · intro _ no' u4
          have nx := ih (fun k hk => by
            rcases Nat.lt_or_ge k (24 * i + pop F2) with q | q
            · exact no' k q
            · rw [← Bool.not_eq_true]
              intro z
              have e : k = 24 * i + (k - 24 * i) := by omega
              rw [e, tst_iff (by omega)] at z
              omega) (.int (nI ti)) (.int (nI (pop F2))) u4
          rw [U_21_3]
          simp (disch := first | omega | assumption | exact rfl) only [U_21_12, XX, QQ, WW, KK, QX, SHs, RRs, Nat.reduceAdd, Nat.reduceMul, Nat.reduceLeDiff, Nat.reduceEqDiff, List.length_cons, List.length_nil, decide_true, decide_false, Bool.true_and, Bool.and_true, Bool.false_and, Bool.and_false, false_and, and_false, Bool.false_eq_true, Bool.true_eq_false, reduceCtorEq, eq_self, if_true, if_false, true_and, and_true, not_true_eq_false, not_false_eq_true, if_pos, if_neg, z_ite_not, false_or, or_false, true_or, or_true, SWs, swk_0, swk_1, c1]
          exact nx
        · intro j hj IH hij no' u4
          have j24 : j < 24 := by omega
          have next : ¬ btr F1 B1 F2 al mks B (swp B i j) → ∀ u4 : Value, Ev X d 21 3 [.ref 140, .int (nI i), .int (nI ti), .int (nI (j + 1)), u4] [] (mk I J) R := fun nb => IH (by omega) (fun k hk => by
            by_cases q : k = 24 * i + j
            · subst q
              rw [← Bool.not_eq_true, tst_iff j24]
              exact fun z => nb z.2.2
            · exact no' k (by omega))
          have wj := s_withTouching (X := X) (d := d) (W := 145) (by omega) hW hj
          obtain ⟨tj, etj⟩ : ∃ tj, tj = wtc F2 j := ⟨_, rfl⟩
          have be := c_better (X := X) (d := d) (t := ti ||| tj) (by omega) hW hE hB hL hm4 hij hj (by rw [eti, etj]) hw
          rw [← etj] at wj
          rw [U_21_3]
          have nine : ∀ u4 : Value, Ev X d 21 9 [.ref 140, .int (nI i), .int (nI ti), .int (nI j), u4] [] (mk I J) R := fun u4 => by
            by_cases z : btr F1 B1 F2 al mks B (swp B i j)
            · have e : fp F1 B1 F2 al mks B = 24 * i + j := fp_is (by omega) ((tst_iff j24).mpr ⟨hij, hj, z⟩) no'
              rw [cd_iff.mpr z, if_pos rfl] at be
              rw [eR, e, if_pos (by omega), decide_eq_true (by omega), show (24 * i + j) / 24 = i by omega, show (24 * i + j) % 24 = j by omega]
              simp (disch := first | omega | assumption | exact rfl) only [U_21_9, U_21_10, XX, QQ, WW, KK, QX, SHs, RRs, Nat.reduceAdd, Nat.reduceMul, Nat.reduceLeDiff, Nat.reduceEqDiff, List.length_cons, List.length_nil, decide_true, decide_false, Bool.true_and, Bool.and_true, Bool.false_and, Bool.and_false, false_and, and_false, Bool.false_eq_true, Bool.true_eq_false, reduceCtorEq, eq_self, if_true, if_false, true_and, and_true, not_true_eq_false, not_false_eq_true, if_pos, if_neg, z_ite_not, false_or, or_false, true_or, or_true, SWs, swk_0, swk_1, wj, fa_or, be]
            · have nx := next z
              rw [cd_f.mpr z, if_neg (by decide)] at be
              simp (disch := first | omega | assumption | exact rfl) only [U_21_9, U_21_11, XX, QQ, WW, KK, QX, SHs, RRs, Nat.reduceAdd, Nat.reduceMul, Nat.reduceLeDiff, Nat.reduceEqDiff, List.length_cons, List.length_nil, decide_true, decide_false, Bool.true_and, Bool.and_true, Bool.false_and, Bool.and_false, false_and, and_false, Bool.false_eq_true, Bool.true_eq_false, reduceCtorEq, eq_self, if_true, if_false, true_and, and_true, not_true_eq_false, not_false_eq_true, if_pos, if_neg, z_ite_not, false_or, or_false, true_or, or_true, SWs, swk_0, swk_1, wj, fa_or, be]
              exact nx _
          by_cases b1 : B i = -1
          · by_cases b2 : B j = -1
            · have nx := next (by rw [swp_same (b1.trans b2.symm)]; exact btr_irr)
              simp (disch := first | omega | assumption | exact rfl) only [U_21_4, U_21_5, U_21_6, U_21_8, U_21_11, XX, QQ, WW, KK, QX, SHs, RRs, Nat.reduceAdd, Nat.reduceMul, Nat.reduceLeDiff, Nat.reduceEqDiff, List.length_cons, List.length_nil, decide_true, decide_false, Bool.true_and, Bool.and_true, Bool.false_and, Bool.and_false, false_and, and_false, Bool.false_eq_true, Bool.true_eq_false, reduceCtorEq, eq_self, if_true, if_false, true_and, and_true, not_true_eq_false, not_false_eq_true, if_pos, if_neg, z_ite_not, false_or, or_false, true_or, or_true, SWs, swk_0, swk_1, c1, hE, b1, b2]
              exact nx _
            · simp (disch := first | omega | assumption | exact rfl) only [U_21_4, U_21_5, U_21_7, U_21_8, XX, QQ, WW, KK, QX, SHs, RRs, Nat.reduceAdd, Nat.reduceMul, Nat.reduceLeDiff, Nat.reduceEqDiff, List.length_cons, List.length_nil, decide_true, decide_false, Bool.true_and, Bool.and_true, Bool.false_and, Bool.and_false, false_and, and_false, Bool.false_eq_true, Bool.true_eq_false, reduceCtorEq, eq_self, if_true, if_false, true_and, and_true, not_true_eq_false, not_false_eq_true, if_pos, if_neg, z_ite_not, false_or, or_false, true_or, or_true, SWs, swk_0, swk_1, c1, hE, b1, b2]
              exact nine _
          · simp (disch := first | omega | assumption | exact rfl) only [U_21_4, U_21_7, U_21_8, XX, QQ, WW, KK, QX, SHs, RRs, Nat.reduceAdd, Nat.reduceMul, Nat.reduceLeDiff, Nat.reduceEqDiff, List.length_cons, List.length_nil, decide_true, decide_false, Bool.true_and, Bool.and_true, Bool.false_and, Bool.and_false, false_and, and_false, Bool.false_eq_true, Bool.true_eq_false, reduceCtorEq, eq_self, if_true, if_false, true_and, and_true, not_true_eq_false, not_false_eq_true, if_pos, if_neg, z_ite_not, false_or, or_false, true_or, or_true, SWs, swk_0, swk_1, c1, hE, b1]
            exact nine _
      have st := inner (i + 1) (by omega) (by omega) (fun k hk => by
        rcases Nat.lt_or_ge k (24 * i) with q | q
        · exact no k q
        · rw [← Bool.not_eq_true]
          intro z
          have e : k = 24 * i + (k - 24 * i) := by omega
          rw [e, tst_iff (by omega)] at z
          omega) u4
      rw [U_21_1]
      simp (disch := first | omega | assumption | exact rfl) only [U_21_2, XX, QQ, WW, KK, QX, SHs, RRs, Nat.reduceAdd, Nat.reduceMul, Nat.reduceLeDiff, Nat.reduceEqDiff, List.length_cons, List.length_nil, decide_true, decide_false, Bool.true_and, Bool.and_true, Bool.false_and, Bool.and_false, false_and, and_false, Bool.false_eq_true, Bool.true_eq_false, reduceCtorEq, eq_self, if_true, if_false, true_and, and_true, not_true_eq_false, not_false_eq_true, if_pos, if_neg, z_ite_not, false_or, or_false, true_or, or_true, SWs, swk_0, swk_1, c1, wi]
      exact st
  simp (disch := first | omega | assumption | exact rfl) only [U_21_0, XX, QQ, WW, KK, QX, SHs, RRs, Nat.reduceAdd, Nat.reduceMul, Nat.reduceLeDiff, Nat.reduceEqDiff, List.length_cons, List.length_nil, decide_true, decide_false, Bool.true_and, Bool.and_true, Bool.false_and, Bool.and_false, false_and, and_false, Bool.false_eq_true, Bool.true_eq_false, reduceCtorEq, eq_self, if_true, if_false, true_and, and_true, not_true_eq_false, not_false_eq_true, if_pos, if_neg, z_ite_not, false_or, or_false, true_or, or_true, SWs, swk_0, swk_1]
  exact lp _ _ _
theorem WG_b {I I' : Nat → Nat → Int32} {J J' : Nat → Nat → Int64} {W F : Nat} (h : WG (mk I J) W F) (h0 : I' W = I W) (h2 : I' (W + 2) = I (W + 2)) (h3 : I' (W + 3) = I (W + 3)) (hJ : J' W = J W) : WG (mk I' J') W F := by
  obtain ⟨g1, g2, g3, g4, g5, g6, g7⟩ := h
  exact ⟨g1, g2, g3, by show J' W 0 = _; rw [hJ]; exact g4, by show I' W 1 = _; rw [h0]; exact g5, fun k hk => by show I' (W + 2) k = _; rw [h2]; exact g6 k hk, fun k s hk hs => by show I' (W + 3) (k * 4 + s) = _; rw [h3]; exact g7 k s hk hs⟩
theorem c_mend {X : Nat × (Nat → Int32)} {d : Nat} {I : Nat → Nat → Int32} {J : Nat → Nat → Int64} {F1 F2 al : Nat} {B1 B : Nat → Int32} {mks : Nat → Nat} (hd : 5 ≤ d) (hW1 : WG (mk I J) 141 F1) (hB1 : WB B1 (pop F1)) (hE1 : ∀ i, i < 24 → I 142 i = B1 i) (hW : WG (mk I J) 145 F2) (hE : I 146 = B) (hB : WB B (pop F2)) (hal : I 1 1 = nI al) (hal2 : al < 2) (hm : ∀ k, k < 24 → I 2 k = nI (mks k)) (hm4 : ∀ k, k < 24 → mks k < 4) :
    ∃ I', callF X d 20 [.ref 140, .ref 1] (mk I J) = some (none, mk I' J) ∧ I' 146 = mnd F1 B1 F2 al mks 1000 B ∧ ∀ a, a ≠ 146 → a ≠ 157 → (a < 149 ∨ 151 < a) → I' a = I a := by
  have h24 := hW.2.2.1
  obtain ⟨d, rfl⟩ : ∃ d', d = d' + 1 := ⟨d - 1, by omega⟩
  have le := s_learn (X := X) (d := d) (N := 149) (W := 141) (by omega) NA_149 (by decide) hW1 (by decide) (WB_tr hW1.2.2.1 hE1 hB1) hal hal2 hm hm4
  have hL0 := Ilrn_LN (I := I) (N := 149) (F := F1) (B := I 142) (al := al) (mks := mks)
  have hL : LN (Ilrn I 149 F1 (I 142) al mks) 149 F1 B1 al mks := ⟨fun b hb => by rw [hL0.1 b hb, nr_cg (fun j hj => hE1 j (by have := hW1.2.2.1; omega))], hL0.2⟩
  have lf := fun a h => Ilrn_fr (I := I) (N := 149) (F := F1) (B := I 142) (al := al) (mks := mks) (a := a) h
  have le : callF X d 37 [.ref 149, .ref 141, .ref 1] (mk I J) = some (none, mk (Ilrn I 149 F1 (I 142) al mks) J) := le
  obtain ⟨Ib, eIb⟩ : ∃ Ib, Ib = Ilrn I 149 F1 (I 142) al mks := ⟨_, rfl⟩
  rw [← eIb] at le hL lf
  have lp : ∀ i, i ≤ 1000 → ∀ (I1 : Nat → Nat → Int32) (Bc : Nat → Int32) (u4 : Value), (∀ a, a ≠ 146 → a ≠ 157 → I1 a = Ib a) → I1 146 = Bc → WB Bc (pop F2) → ∃ I', Ev X d 20 1 [.ref 140, .ref 1, .int (nI 1), .int (nI i), u4] [] (mk I1 J) (none, mk I' J) ∧ I' 146 = mnd F1 B1 F2 al mks (1000 - i) Bc ∧ ∀ a, a ≠ 146 → a ≠ 157 → I' a = Ib a := by
    refine lpd (n := 1000) (P := fun i => ∀ (I1 : Nat → Nat → Int32) (Bc : Nat → Int32) (u4 : Value), (∀ a, a ≠ 146 → a ≠ 157 → I1 a = Ib a) → I1 146 = Bc → WB Bc (pop F2) → ∃ I', Ev X d 20 1 [.ref 140, .ref 1, .int (nI 1), .int (nI i), u4] [] (mk I1 J) (none, mk I' J) ∧ I' 146 = mnd F1 B1 F2 al mks (1000 - i) Bc ∧ ∀ a, a ≠ 146 → a ≠ 157 → I' a = Ib a) ?_ ?_
    · intro I1 Bc u4 f1 e1 w1
      refine ⟨I1, ?_, by rw [Nat.sub_self, mnd]; exact e1, f1⟩
      rw [U_20_1]
      simp (disch := first | omega | assumption | exact rfl) only [U_20_7, XX, QQ, WW, KK, QX, SHs, RRs, Nat.reduceAdd, Nat.reduceMul, Nat.reduceLeDiff, Nat.reduceEqDiff, List.length_cons, List.length_nil, decide_true, decide_false, Bool.true_and, Bool.and_true, Bool.false_and, Bool.and_false, false_and, and_false, Bool.false_eq_true, Bool.true_eq_false, reduceCtorEq, eq_self, if_true, if_false, true_and, and_true, not_true_eq_false, not_false_eq_true, if_pos, if_neg, z_ite_not, false_or, or_false, true_or, or_true, SWs, swk_0, swk_1]
    · intro i hi ih I1 Bc u4 f1 e1 w1
      obtain ⟨wf, ewf⟩ : ∃ wf : Nat → Int32, wf = fun c => iI (wgt F1 B1 F2 Bc al mks c) := ⟨_, rfl⟩
      have f1' : ∀ a, a ≠ 146 → a ≠ 157 → (a < 149 ∨ 151 < a) → I1 a = I a := fun a h1 h2 h3 => by rw [f1 a h1 h2, lf a (by omega)]
      obtain ⟨Iw, eIw⟩ : ∃ Iw : Nat → Nat → Nat → Int32, Iw = fun k => va_up I1 157 (cpP wf (I1 157) k) := ⟨_, rfl⟩
      have w157 : ∀ k, Iw k 157 = cpP wf (I1 157) k := fun k => by rw [eIw]; exact vu_eq
      have wfr : ∀ k a, a ≠ 157 → Iw k a = I1 a := fun k a h => by rw [eIw]; exact vu_ne h
      have ws : ∀ k, va_up (Iw k) 157 (va_up (Iw k 157) k (wf k)) = Iw (k + 1) := fun k => by rw [w157, cpP_s, eIw]; dsimp only; rw [vu_vu]
      have w0 : Iw 0 = I1 := by rw [eIw]; dsimp only; rw [cpP_0, vu_id]
      have hWk : ∀ k, WG (mk (Iw k) J) 145 F2 := fun k => WG_b hW (by rw [wfr k _ (by decide), f1' _ (by decide) (by decide) (by decide)]) (by rw [wfr k _ (by decide), f1' _ (by decide) (by decide) (by decide)]) (by rw [wfr k _ (by decide), f1' _ (by decide) (by decide) (by decide)]) rfl
      have hLk : ∀ k, LN (Iw k) 149 F1 B1 al mks := fun k => by
        obtain ⟨l1, l2, l3⟩ := hL
        exact ⟨fun b hb => by show Iw k 150 b = _; rw [wfr k _ (by decide), f1 _ (by decide) (by decide)]; exact l1 b hb, by rw [wfr k _ (by decide), f1 _ (by decide) (by decide)]; exact l2, fun b hb => by show Iw k 151 b = _; rw [wfr k _ (by decide), f1 _ (by decide) (by decide)]; exact l3 b hb⟩
      have e6 : ∀ k, Iw k 146 = Bc := fun k => by rw [wfr k _ (by decide)]; exact e1
      have c1 : ∀ k, Iw k 145 1 = nI (pop F2) := fun k => (hWk k).2.2.2.2.1
      have xf := c_exchangeFirst (X := X) (d := d) (I := Iw (pop F2)) (J := J) (F1 := F1) (F2 := F2) (al := al) (B1 := B1) (B := Bc) (mks := mks) (by omega) (hWk _) (e6 _) w1 (hLk _) hm4 (fun c hc => by rw [w157]; unfold cpP; rw [if_pos hc, ewf])
      have go : ∃ I', Ev X d 20 4 [.ref 140, .ref 1, .int (nI 1), .int (nI i), .int (nI 0)] [] (mk I1 J) (none, mk I' J) ∧ I' 146 = mnd F1 B1 F2 al mks (1000 - i) Bc ∧ ∀ a, a ≠ 146 → a ≠ 157 → I' a = Ib a := by
        have six : ∃ I', Ev X d 20 6 [.ref 140, .ref 1, .int (nI 1), .int (nI i), .int (nI (pop F2))] [] (mk (Iw (pop F2)) J) (none, mk I' J) ∧ I' 146 = mnd F1 B1 F2 al mks (1000 - i) Bc ∧ ∀ a, a ≠ 146 → a ≠ 157 → I' a = Ib a := by
          have e : 1000 - i = (1000 - (i + 1)) + 1 := by omega
          rw [e]
          unfold mnd
          by_cases z : fp F1 B1 F2 al mks Bc < 576
          · rw [if_pos z, decide_eq_true z] at xf
            rw [if_pos z]
            obtain ⟨y1, y2, _⟩ := fp_yes z
            obtain ⟨I', t1, t2, t3⟩ := ih (va_up (Iw (pop F2)) 146 (swp Bc (fp F1 B1 F2 al mks Bc / 24) (fp F1 B1 F2 al mks Bc % 24))) (swp Bc (fp F1 B1 F2 al mks Bc / 24) (fp F1 B1 F2 al mks Bc % 24)) (.int (nI (pop F2))) (fun a h1 h2 => by rw [vu_ne h1, wfr _ a h2, f1 a h1 h2]) vu_eq (swp_WB w1 (by omega) y2 (by omega))
            refine ⟨I', ?_, t2, t3⟩
            simp (disch := first | omega | assumption | exact rfl) only [U_20_6, XX, QQ, WW, KK, QX, SHs, RRs, Nat.reduceAdd, Nat.reduceMul, Nat.reduceLeDiff, Nat.reduceEqDiff, List.length_cons, List.length_nil, decide_true, decide_false, Bool.true_and, Bool.and_true, Bool.false_and, Bool.and_false, false_and, and_false, Bool.false_eq_true, Bool.true_eq_false, reduceCtorEq, eq_self, if_true, if_false, true_and, and_true, not_true_eq_false, not_false_eq_true, if_pos, if_neg, z_ite_not, false_or, or_false, true_or, or_true, SWs, swk_0, swk_1, xf]
            exact t1
          · rw [if_neg z, decide_eq_false z] at xf
            rw [if_neg z]
            refine ⟨Iw (pop F2), ?_, e6 _, fun a h1 h2 => by rw [wfr _ a h2, f1 a h1 h2]⟩
            have i31 : i + 1 ≤ 1000 := by omega
            rcases Nat.lt_or_ge (i + 1) 1000 with q | q
            · simp (disch := first | omega | assumption | exact rfl) only [U_20_6, U_20_1, U_20_2, U_20_7, XX, QQ, WW, KK, QX, SHs, RRs, Nat.reduceAdd, Nat.reduceMul, Nat.reduceLeDiff, Nat.reduceEqDiff, List.length_cons, List.length_nil, decide_true, decide_false, Bool.true_and, Bool.and_true, Bool.false_and, Bool.and_false, false_and, and_false, Bool.false_eq_true, Bool.true_eq_false, reduceCtorEq, eq_self, if_true, if_false, true_and, and_true, not_true_eq_false, not_false_eq_true, if_pos, if_neg, z_ite_not, false_or, or_false, true_or, or_true, SWs, swk_0, swk_1, xf]
            · have q' : i + 1 = 1000 := by omega
              simp (disch := first | omega | assumption | exact rfl) only [U_20_6, U_20_1, U_20_7, XX, QQ, WW, KK, QX, SHs, RRs, Nat.reduceAdd, Nat.reduceMul, Nat.reduceLeDiff, Nat.reduceEqDiff, List.length_cons, List.length_nil, decide_true, decide_false, Bool.true_and, Bool.and_true, Bool.false_and, Bool.and_false, false_and, and_false, Bool.false_eq_true, Bool.true_eq_false, reduceCtorEq, eq_self, if_true, if_false, true_and, and_true, not_true_eq_false, not_false_eq_true, if_pos, if_neg, z_ite_not, false_or, or_false, true_or, or_true, SWs, swk_0, swk_1, xf, q']
        obtain ⟨I', t1, t2, t3⟩ := six
        refine ⟨I', ?_, t2, t3⟩
        refine lpI (n := pop F2) (P := fun k => Ev X d 20 4 [.ref 140, .ref 1, .int (nI 1), .int (nI i), .int (nI k)] [] (mk (Iw k) J) (none, mk I' J)) ?_ ?_ (fun Q => by rw [w0] at Q; exact Q)
        · have c1 := c1 (pop F2)
          rw [U_20_4]
          simp (disch := first | omega | assumption | exact rfl) only [U_20_4, XX, QQ, WW, KK, QX, SHs, RRs, Nat.reduceAdd, Nat.reduceMul, Nat.reduceLeDiff, Nat.reduceEqDiff, List.length_cons, List.length_nil, decide_true, decide_false, Bool.true_and, Bool.and_true, Bool.false_and, Bool.and_false, false_and, and_false, Bool.false_eq_true, Bool.true_eq_false, reduceCtorEq, eq_self, if_true, if_false, true_and, and_true, not_true_eq_false, not_false_eq_true, if_pos, if_neg, z_ite_not, false_or, or_false, true_or, or_true, SWs, swk_0, swk_1, c1]
          exact t1
        · intro k hk IH
          have c1 := c1 k
          have k24 : k < 24 := by omega
          have wo := s_weightOf (X := X) (d := d) (N := 149) (W := 145) (F1 := F1) (F2 := F2) (i := k) (by omega) NA_149 (hLk k) (hWk k) (by show WB (Iw k 146) _; rw [e6]; exact w1) hm4 hk
          have wo : callF X d 39 [.ref 149, .ref 145, .int (nI k)] (mk (Iw k) J) = some (some (.int (wf k)), mk (Iw k) J) := by
            rw [wo, ewf, ← e6 k]
          rw [← ws k] at IH
          rw [U_20_4]
          simp (disch := first | omega | assumption | exact rfl) only [U_20_5, XX, QQ, WW, KK, QX, SHs, RRs, Nat.reduceAdd, Nat.reduceMul, Nat.reduceLeDiff, Nat.reduceEqDiff, List.length_cons, List.length_nil, decide_true, decide_false, Bool.true_and, Bool.and_true, Bool.false_and, Bool.and_false, false_and, and_false, Bool.false_eq_true, Bool.true_eq_false, reduceCtorEq, eq_self, if_true, if_false, true_and, and_true, not_true_eq_false, not_false_eq_true, if_pos, if_neg, z_ite_not, false_or, or_false, true_or, or_true, SWs, swk_0, swk_1, c1, wo]
          exact IH
      obtain ⟨I', t1, t2, t3⟩ := go
      refine ⟨I', ?_, t2, t3⟩
      have i31 : i < 2 ^ 31 := by omega
      rw [U_20_1]
      simp (disch := first | omega | assumption | exact rfl) only [U_20_2, U_20_3, XX, QQ, WW, KK, QX, SHs, RRs, Nat.reduceAdd, Nat.reduceMul, Nat.reduceLeDiff, Nat.reduceEqDiff, List.length_cons, List.length_nil, decide_true, decide_false, Bool.true_and, Bool.and_true, Bool.false_and, Bool.and_false, false_and, and_false, Bool.false_eq_true, Bool.true_eq_false, reduceCtorEq, eq_self, if_true, if_false, true_and, and_true, not_true_eq_false, not_false_eq_true, if_pos, if_neg, z_ite_not, false_or, or_false, true_or, or_true, SWs, swk_0, swk_1]
      exact t1
  obtain ⟨I', t1, t2, t3⟩ := lp 0 (by decide) Ib B (.retAddr 0) (fun a _ _ => rfl) (by rw [lf 146 (by decide)]; exact hE) hB
  refine ⟨I', ?_, t2, fun a h1 h2 h3 => by rw [t3 a h1 h2, lf a (by omega)]⟩
  refine callF_at (by omega) (by decide) (Nat.le_of_ble_eq_true rfl) (fun d' hd' => ?_)
  obtain rfl : d = d' := by omega
  show Ev X d 20 0 [.ref 140, .ref 1, .retAddr 0, .retAddr 0, .retAddr 0] [] (mk I J) _
  simp (disch := first | omega | assumption | exact rfl) only [U_20_0, XX, QQ, WW, KK, QX, SHs, RRs, Nat.reduceAdd, Nat.reduceMul, Nat.reduceLeDiff, Nat.reduceEqDiff, List.length_cons, List.length_nil, decide_true, decide_false, Bool.true_and, Bool.and_true, Bool.false_and, Bool.and_false, false_and, and_false, Bool.false_eq_true, Bool.true_eq_false, reduceCtorEq, eq_self, if_true, if_false, true_and, and_true, not_true_eq_false, not_false_eq_true, if_pos, if_neg, z_ite_not, false_or, or_false, true_or, or_true, SWs, swk_0, swk_1, le]
  exact t1
