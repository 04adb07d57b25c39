/-! ===== mending: the class ===== -/
theorem c_better {X : Nat × (Nat → Int32)} {d : Nat} {I : Nat → Nat → Int32} {J : Nat → Nat → Int64} {F1 F2 al i j t : Nat} {B1 B : Nat → Int32} {mks : Nat → Nat} (hd : 3 ≤ d) (hW : WG (mk I J) 145 F2) (hE : I 146 = B) (hB : WB B (pop F2)) (hL : LN I 149 F1 B1 al mks) (hm4 : ∀ k, k < 24 → mks k < 4) (hi : i < j) (hj : j < pop F2) (ht : t = wtc F2 i ||| wtc F2 j) (hw : ∀ c, c < pop F2 → I 157 c = iI (wgt F1 B1 F2 B al mks c)) :
    callF X d 22 [.ref 140, .int (nI i), .int (nI j), .int (nI t)] (mk I J) = some (some (.int (bI (cd (btr F1 B1 F2 al mks B (swp B i j))))), mk (if cd (btr F1 B1 F2 al mks B (swp B i j)) = true then va_up I 146 (swp B i j) else I) J) := by
  have h24 := hW.2.2.1
  have hB' : WB (swp B i j) (pop F2) := swp_WB hB (by omega) hj (by omega)
  have t24 : t < 2 ^ 24 := by rw [ht]; exact Nat.or_lt_two_pow (bs_lt _) (bs_lt _)
  obtain ⟨I', eI'⟩ : ∃ I', I' = va_up I 146 (swp B i j) := ⟨_, rfl⟩
  have gf : ∀ a, a ≠ 146 → I' a = I a := fun a h => by rw [eI', vu_ne h]
  have g6 : I' 146 = swp B i j := by rw [eI', vu_eq]
  have hW' : WG (mk I' J) 145 F2 := by
    obtain ⟨g1, g2, g3, g4, g5, g6, g7⟩ := hW
    exact ⟨g1, g2, g3, g4, by show I' 145 1 = _; rw [gf 145 (by decide)]; exact g5, fun k hk => by show I' 147 k = _; rw [gf 147 (by decide)]; exact g6 k hk, fun k s hk hs => by show I' 148 (k * 4 + s) = _; rw [gf 148 (by decide)]; exact g7 k s hk hs⟩
  have hL' : LN I' 149 F1 B1 al mks := by
    obtain ⟨l1, l2, l3⟩ := hL
    exact ⟨fun b hb => by show I' 150 b = _; rw [gf 150 (by decide)]; exact l1 b hb, by rw [gf 149 (by decide)]; exact l2, fun k hk => by show I' 151 k = _; rw [gf 151 (by decide)]; exact l3 k hk⟩
  have c1 : I' 145 1 = nI (pop F2) := hW'.2.2.2.2.1
  obtain ⟨d, rfl⟩ : ∃ d', d = d' + 1 := ⟨d - 1, by omega⟩
  have ex : callF X d 103 [.ref 145, .int (nI i), .int (nI j)] (mk I J) = some (none, mk I' J) := by
    have := s_exchange (X := X) (d := d) (W := 145) (i := i) (j := j) (by omega) hW (by omega) hj
    rw [eI', ← hE]; exact this
  have ex' : callF X d 103 [.ref 145, .int (nI i), .int (nI j)] (mk I' J) = some (none, mk I J) := by
    have := s_exchange (X := X) (d := d) (W := 145) (i := i) (j := j) (by omega) hW' (by omega) hj
    refine this.trans ?_
    show some (none, mk (va_up I' 146 (swp (I' 146) i j)) J) = _
    rw [g6, swp_swp (by omega), eI', vu_vu, vu_same hE]
  refine callF_at (by omega) (by decide) (Nat.le_of_ble_eq_true rfl) (fun d' hd' => ?_)
  obtain rfl : d = d' := by omega
  show Ev X d 22 0 [.ref 140, .int (nI i), .int (nI j), .int (nI t), .retAddr 0, .retAddr 0] [] (mk I J) _
  obtain ⟨w, ew⟩ : ∃ w, w = wgt F1 B1 F2 B al mks := ⟨_, rfl⟩
  obtain ⟨w', ew'⟩ : ∃ w', w' = wgt F1 B1 F2 (swp B i j) al mks := ⟨_, rfl⟩
  obtain ⟨f, ef⟩ : ∃ f : Nat → Int, f = fun c => if t.testBit c = true then w' c - w c else 0 := ⟨_, rfl⟩
  have wb : ∀ c, -1100 ≤ w c ∧ w c ≤ 1100 := fun c => by rw [ew]; exact wgt_bd
  have wb' : ∀ c, -1100 ≤ w' c ∧ w' c ≤ 1100 := fun c => by rw [ew']; exact wgt_bd
  have fb : ∀ c, -2200 ≤ f c ∧ f c ≤ 2200 := fun c => by
    rw [ef]; dsimp only
    have := wb c; have := wb' c
    split <;> omega
  have sb := sI_bd (f := f) (c := 2200) (by decide) (pop F2) (fun k _ => fb k)
  have se : sI f (pop F2) = sI w' (pop F2) - sI w (pop F2) := by
    rw [← sI_sub]
    refine sI_cong _ (fun c hc => ?_)
    rw [ef]; dsimp only
    by_cases z : t.testBit c = true
    · rw [if_pos z]
    · rw [if_neg z]
      rw [ht, Nat.testBit_or, Bool.not_eq_true, Bool.or_eq_false_iff] at z
      rw [ew, ew', wgt_un z.1 z.2 hc h24]; omega
  have bw := btr_w (F1 := F1) (B1 := B1) (al := al) (mks := mks) hB hB' h24
  rw [← ew, ← ew', ← se] at bw
  have lp : Ev X d 22 1 [.ref 140, .int (nI i), .int (nI j), .int (nI t), .int (nI 0), .int (nI 0)] [] (mk I' J) (some (.int (bI (cd (btr F1 B1 F2 al mks B (swp B i j))))), mk (if cd (btr F1 B1 F2 al mks B (swp B i j)) = true then va_up I 146 (swp B i j) else I) J) := by
    refine lpI (n := pop F2) (P := fun k => Ev X d 22 1 [.ref 140, .int (nI i), .int (nI j), .int (nI t), .int (iI (sI f k)), .int (nI k)] [] (mk I' J) (some (.int (bI (cd (btr F1 B1 F2 al mks B (swp B i j))))), mk (if cd (btr F1 B1 F2 al mks B (swp B i j)) = true then va_up I 146 (swp B i j) else I) J)) ?_ ?_ (fun Q => Q)
    · have lt := iI_lt0 (z := sI f (pop F2)) (by omega) (by omega)
      rw [U_22_1]
      by_cases z : sI f (pop F2) < 0
      · have zb := cd_iff.mpr (bw.mpr z)
        have z1 : iI (sI f (pop F2)) < 0 := by rw [lt]; exact z
        have z2 : ¬ 0 ≤ iI (sI f (pop F2)) := (fa_of_lt z1).2.1
        rw [zb, if_pos rfl, ← eI']
        simp (disch := first | omega | assumption | exact rfl) only [U_22_5, U_22_6, XX, QQ, WW, KK, QX, SHs, RRs, Nat.reduceAdd, Nat.reduceMul, Nat.reduceLeDiff, Nat.reduceEqDiff, List.length_cons, List.length_nil, decide_true, decide_false, Bool.true_and, Bool.and_true, Bool.false_and, Bool.and_false, false_and, and_false, Bool.false_eq_true, Bool.true_eq_false, reduceCtorEq, eq_self, if_true, if_false, true_and, and_true, not_true_eq_false, not_false_eq_true, if_pos, if_neg, z_ite_not, false_or, or_false, true_or, or_true, SWs, swk_0, swk_1, c1, z2, z1]
      · have zb := cd_f.mpr (fun q => z (bw.mp q))
        have z1 : ¬ iI (sI f (pop F2)) < 0 := by rw [lt]; exact z
        have z2 : 0 ≤ iI (sI f (pop F2)) := fa_of_nlt z1
        rw [zb, if_neg (by decide)]
        simp (disch := first | omega | assumption | exact rfl) only [U_22_5, U_22_7, XX, QQ, WW, KK, QX, SHs, RRs, Nat.reduceAdd, Nat.reduceMul, Nat.reduceLeDiff, Nat.reduceEqDiff, List.length_cons, List.length_nil, decide_true, decide_false, Bool.true_and, Bool.and_true, Bool.false_and, Bool.and_false, false_and, and_false, Bool.false_eq_true, Bool.true_eq_false, reduceCtorEq, eq_self, if_true, if_false, true_and, and_true, not_true_eq_false, not_false_eq_true, if_pos, if_neg, z_ite_not, false_or, or_false, true_or, or_true, SWs, swk_0, swk_1, c1, z2, z1, ex']
    · intro k hk ih
      have k24 : k < 24 := by omega
      have wo := s_weightOf (X := X) (d := d) (N := 149) (W := 145) (F1 := F1) (F2 := F2) (i := k) (by omega) NA_149 hL' hW' (by show WB (I' 146) _; rw [g6]; exact hB') hm4 hk
      have wo : callF X d 39 [.ref 149, .ref 145, .int (nI k)] (mk I' J) = some (some (.int (iI (w' k))), mk I' J) := by
        rw [wo, ew', ← g6]
      have w7 : I' 157 k = iI (w k) := by rw [gf 157 (by decide), ew]; exact hw k hk
      have fs : sI f (k + 1) = sI f k + f k := rfl
      rw [fs] at ih
      rw [U_22_1]
      cases z : t.testBit k with
      | true =>
        have fk : f k = w' k - w k := by rw [ef]; dsimp only; rw [if_pos z]
        rw [fk] at ih
        simp (disch := first | omega | assumption | exact rfl) only [U_22_2, U_22_3, U_22_4, XX, QQ, WW, KK, QX, SHs, RRs, Nat.reduceAdd, Nat.reduceMul, Nat.reduceLeDiff, Nat.reduceEqDiff, List.length_cons, List.length_nil, decide_true, decide_false, Bool.true_and, Bool.and_true, Bool.false_and, Bool.and_false, false_and, and_false, Bool.false_eq_true, Bool.true_eq_false, reduceCtorEq, eq_self, if_true, if_false, true_and, and_true, not_true_eq_false, not_false_eq_true, if_pos, if_neg, z_ite_not, false_or, or_false, true_or, or_true, SWs, swk_0, swk_1, c1, z, wo, w7, iI_sub, iI_add]
        exact ih
      | false =>
        have fk : f k = 0 := by rw [ef]; dsimp only; rw [if_neg (by rw [z]; decide)]
        rw [fk, Int.add_zero] at ih
        simp (disch := first | omega | assumption | exact rfl) only [U_22_2, U_22_4, XX, QQ, WW, KK, QX, SHs, RRs, Nat.reduceAdd, Nat.reduceMul, Nat.reduceLeDiff, Nat.reduceEqDiff, List.length_cons, List.length_nil, decide_true, decide_false, Bool.true_and, Bool.and_true, Bool.false_and, Bool.and_false, false_and, and_false, Bool.false_eq_true, Bool.true_eq_false, reduceCtorEq, eq_self, if_true, if_false, true_and, and_true, not_true_eq_false, not_false_eq_true, if_pos, if_neg, z_ite_not, false_or, or_false, true_or, or_true, SWs, swk_0, swk_1, c1, z]
        exact ih
  simp (disch := first | omega | assumption | exact rfl) only [U_22_0, XX, QQ, WW, KK, QX, SHs, RRs, Nat.reduceAdd, Nat.reduceMul, Nat.reduceLeDiff, Nat.reduceEqDiff, List.length_cons, List.length_nil, decide_true, decide_false, Bool.true_and, Bool.and_true, Bool.false_and, Bool.and_false, false_and, and_false, Bool.false_eq_true, Bool.true_eq_false, reduceCtorEq, eq_self, if_true, if_false, true_and, and_true, not_true_eq_false, not_false_eq_true, if_pos, if_neg, z_ite_not, false_or, or_false, true_or, or_true, SWs, swk_0, swk_1, ex]
  exact lp
