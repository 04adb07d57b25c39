/-! ===== the class keeps a year: all of it ===== -/
theorem c_keepYear {X : Nat × (Nat → Int32)} {d : Nat} {I : Nat → Nat → Int32} {J : Nat → Nat → Int64} {W F h : Nat} {bd kp gd : Int32} (hd : 3 ≤ d) (hW : WG (mk I J) W F) (hW14 : 13 < W) (hB : WB (I (W + 1)) (pop F)) (h0 : I 8 0 = nI h) (hh : h ≤ 60) :
    ∃ I', callF X d 26 [.ref 8, .ref W, .int bd, .int kp, .int gd] (mk I J) = some (none, mk I' J) ∧ (∀ a, a < 8 ∨ 13 < a → I' a = I a) ∧ (h = 60 → I' = I) ∧ (h < 60 → I' 8 0 = nI (h + 1) ∧ I' 9 = va_up (I 9) h bd ∧ I' 10 = va_up (I 10) h kp ∧ I' 11 = va_up (I 11) h gd ∧ I' 12 = kyS (I 12) (h * 24) (I (W + 1)) (nI 0) (fun b => nI (nr F (I (W + 1)) b)) (pop F) ∧ I' 13 = kyS (I 13) (h * 24) (I (W + 1)) (-1) (lfB F (I (W + 1))) (pop F)) := by
  obtain ⟨B, eB⟩ : ∃ B, B = I (W + 1) := ⟨_, rfl⟩
  rw [← eB] at hB
  rw [← eB]
  have h24 := hW.2.2.1
  have hS : SH W = (9, 5) := hW.1.1
  have hc : I W 1 = nI (pop F) := hW.2.2.2.2.1
  have hr2 : RR W 2 = some (W + 1) := hW.1.2.1
  have hs1 : SH (W + 1) = (20, 24) := hW.1.2.2.2.2.1
  obtain ⟨d, rfl⟩ : ∃ d', d = d' + 1 := ⟨d - 1, by omega⟩
  by_cases z : h = 60
  · refine ⟨I, ?_, fun _ _ => rfl, fun _ => rfl, fun y => by omega⟩
    refine callF_at (by omega) (by decide) (Nat.le_of_ble_eq_true rfl) (fun d' hd' => ?_)
    obtain rfl : d = d' := by omega
    show Ev X d 26 0 [.ref 8, .ref W, .int bd, .int kp, .int gd, .retAddr 0, .retAddr 0, .retAddr 0] [] (mk I J) _
    simp (disch := first | omega | assumption | exact rfl) only [U_26_0, U_26_1, XX, QQ, WW, KK, QX, SHs, RRs, Nat.reduceAdd, Nat.reduceMul, Nat.reduceLeDiff, Nat.reduceEqDiff, List.length_cons, List.length_nil, decide_true, decide_false, Bool.true_and, Bool.and_true, Bool.false_and, Bool.and_false, false_and, and_false, Bool.false_eq_true, Bool.true_eq_false, reduceCtorEq, eq_self, if_true, if_false, true_and, and_true, not_true_eq_false, not_false_eq_true, if_pos, if_neg, z_ite_not, false_or, or_false, true_or, or_true, SWs, swk_0, swk_1, h0]
  · have hlt : h < 60 := by omega
    obtain ⟨I1, eI1⟩ : ∃ I1, I1 = va_up (va_up (va_up I 9 (va_up (I 9) h bd)) 10 (va_up (I 10) h kp)) 11 (va_up (I 11) h gd) := ⟨_, rfl⟩
    have f1 : ∀ a, a ≠ 9 → a ≠ 10 → a ≠ 11 → I1 a = I a := fun a x y w => by rw [eI1, vu_ne w, vu_ne y, vu_ne x]
    obtain ⟨w1, ew1⟩ : ∃ w1 : Nat → Int32, w1 = fun b => nI (nr F B b) := ⟨_, rfl⟩
    rw [← ew1]
    have fl1 := s_fillR (X := X) (d := d) (I := I1) (J := J) (a := 12) (n := 1440) (lo := h * 24) (len := 24) (v := nI 0) (by omega) rfl (by decide) (by omega)
    have fl2 := s_fillR (X := X) (d := d) (I := va_up I1 12 (filR (h * 24) (h * 24 + 24) (nI 0) (I1 12))) (J := J) (a := 13) (n := 1440) (lo := h * 24) (len := 24) (v := -1) (by omega) rfl (by decide) (by omega)
    rw [vu_ne (by decide)] at fl2
    have e12 : I1 12 = I 12 := f1 _ (by decide) (by decide) (by decide)
    have e13 : I1 13 = I 13 := f1 _ (by decide) (by decide) (by decide)
    have e8 : I1 8 = I 8 := f1 _ (by decide) (by decide) (by decide)
    obtain ⟨It, eIt⟩ : ∃ It : Nat → Nat → Nat → Int32, It = fun m => va_up (va_up I1 12 (kyS (I 12) (h * 24) B (nI 0) w1 m)) 13 (kyS (I 13) (h * 24) B (-1) (lfB F B) m) := ⟨_, rfl⟩
    have g12 : ∀ m, It m 12 = kyS (I 12) (h * 24) B (nI 0) w1 m := fun m => by rw [eIt]; dsimp only; rw [vu_ne (by decide), vu_eq]
    have g13 : ∀ m, It m 13 = kyS (I 13) (h * 24) B (-1) (lfB F B) m := fun m => by rw [eIt]; dsimp only; rw [vu_eq]
    have gf : ∀ m a, a ≠ 12 → a ≠ 13 → It m a = I1 a := fun m a x y => by rw [eIt]; dsimp only; rw [vu_ne y, vu_ne x]
    have g8 : ∀ m, It m 8 0 = nI h := fun m => by rw [gf m _ (by decide) (by decide), e8]; exact h0
    have step : ∀ m b, B m = nI b → b < 24 → va_up (va_up (It m) 12 (va_up (It m 12) (h * 24 + b) (w1 b))) 13 (va_up (It m 13) (h * 24 + b) (lfB F B b)) = It (m + 1) := fun m b q hb => by
      rw [g12, g13, kyS_s hb q, kyS_s hb q, eIt]
      dsimp only
      funext a
      by_cases x : a = 13
      · subst x; rw [vu_eq, vu_eq]
      · rw [vu_ne x, vu_ne x]
        by_cases y : a = 12
        · subst y; rw [vu_eq, vu_eq]
        · rw [vu_ne y, vu_ne y, vu_ne x, vu_ne y]
    have lp : Ev X d 26 3 [.ref 8, .ref W, .int bd, .int kp, .int gd, .int (nI (h * 24)), .int (nI 0), .retAddr 0] [] (mk (It 0) J) (none, mk (va_up (It (pop F)) 8 (va_up (It (pop F) 8) 0 (nI (h + 1)))) J) := by
      refine lpI (n := pop F) (P := fun m => ∀ u : Value, Ev X d 26 3 [.ref 8, .ref W, .int bd, .int kp, .int gd, .int (nI (h * 24)), .int (nI m), u] [] (mk (It m) J) (none, mk (va_up (It (pop F)) 8 (va_up (It (pop F) 8) 0 (nI (h + 1)))) J)) ?_ ?_ (fun Q => Q _)
      · intro u
        have c1 : It (pop F) W 1 = nI (pop F) := by rw [gf _ _ (by omega) (by omega), f1 _ (by omega) (by omega) (by omega)]; exact hc
        have c8 := g8 (pop F)
        rw [U_26_3]
        simp (disch := first | omega | assumption | exact rfl) only [U_26_7, XX, QQ, WW, KK, QX, SHs, RRs, Nat.reduceAdd, Nat.reduceMul, Nat.reduceLeDiff, Nat.reduceEqDiff, List.length_cons, List.length_nil, decide_true, decide_false, Bool.true_and, Bool.and_true, Bool.false_and, Bool.and_false, false_and, and_false, Bool.false_eq_true, Bool.true_eq_false, reduceCtorEq, eq_self, if_true, if_false, true_and, and_true, not_true_eq_false, not_false_eq_true, if_pos, if_neg, z_ite_not, false_or, or_false, true_or, or_true, SWs, swk_0, swk_1, hS, c1, c8]
      · intro m hm ih u
        have c1 : It m W 1 = nI (pop F) := by rw [gf _ _ (by omega) (by omega), f1 _ (by omega) (by omega) (by omega)]; exact hc
        have cB : It m (W + 1) = B := by rw [gf _ _ (by omega) (by omega), f1 _ (by omega) (by omega) (by omega), eB]
        have hm24 : m < 24 := by omega
        rcases hB.1 m hm with q | ⟨b, hb, q⟩
        · have e : It (m + 1) = It m := by rw [eIt]; dsimp only; rw [kyS_n q, kyS_n q]
          rw [e] at ih
          have o : (decide (0 ≤ (-1 : Int32)) && decide ((-1 : Int32) < nI 24)) = false := by decide +kernel
          rw [U_26_3]
          simp (disch := first | omega | assumption | exact rfl) only [U_26_4, U_26_6, XX, QQ, WW, KK, QX, SHs, RRs, Nat.reduceAdd, Nat.reduceMul, Nat.reduceLeDiff, Nat.reduceEqDiff, List.length_cons, List.length_nil, decide_true, decide_false, Bool.true_and, Bool.and_true, Bool.false_and, Bool.and_false, false_and, and_false, Bool.false_eq_true, Bool.true_eq_false, reduceCtorEq, eq_self, if_true, if_false, true_and, and_true, not_true_eq_false, not_false_eq_true, if_pos, if_neg, z_ite_not, false_or, or_false, true_or, or_true, SWs, swk_0, swk_1, hS, hr2, hs1, c1, cB, q, s_isOf, o]
          exact ih _
        · rw [← step m b q hb] at ih
          have fW : ∀ I2 : Nat → Nat → Int32, (∀ a, a ≠ 12 → a ≠ 13 → I2 a = It m a) → WG (mk I2 J) W F := fun I2 hI2 => WG_fr hW (fun a h1 h2 => by rw [hI2 a (by omega) (by omega), gf _ _ (by omega) (by omega), f1 _ (by omega) (by omega) (by omega)]) rfl
          have fB2 : ∀ I2 : Nat → Nat → Int32, (∀ a, a ≠ 12 → a ≠ 13 → I2 a = It m a) → I2 (W + 1) = B := fun I2 hI2 => by rw [hI2 _ (by omega) (by omega)]; exact cB
          have hI0 : ∀ a, a ≠ 12 → a ≠ 13 → It m a = It m a := fun _ _ _ => rfl
          have hI3 : ∀ a, a ≠ 12 → a ≠ 13 → va_up (It m) 12 (va_up (It m 12) (h * 24 + b) (w1 b)) a = It m a := fun a x y => vu_ne x
          have b1 := s_besideOf (X := X) (d := d) (by omega) (fW _ hI0) (by show WB (It m (W + 1)) (pop F); rw [cB]; exact hB) hm
          have eb1 : m_I (mk (It m) J) (W + 1) = B := cB
          rw [eb1] at b1
          have ew : nI (nbr F B m) = w1 b := by rw [ew1]; dsimp only; rw [nr_at hB hm hb q]
          rw [ew] at b1
          have b2 := s_cellBeside (X := X) (d := d) (s := 1) (by omega) (fW _ hI3) hm (by decide)
          have b3 := s_brickIn (X := X) (d := d) (v := tch F m 1) (by omega) (fW _ hI3)
          have eb3 : m_I (mk (va_up (It m) 12 (va_up (It m 12) (h * 24 + b) (w1 b))) J) (W + 1) = B := fB2 _ hI3
          rw [eb3] at b3
          have el : brI B (pop F) (tch F m 1) = lfB F B b := by unfold lfB; rw [ixB_at hB h24 hm hb q]
          rw [el] at b3
          rw [U_26_3]
          simp (disch := first | omega | assumption | exact rfl) only [U_26_4, U_26_5, U_26_6, XX, QQ, WW, KK, QX, SHs, RRs, Nat.reduceAdd, Nat.reduceMul, Nat.reduceLeDiff, Nat.reduceEqDiff, List.length_cons, List.length_nil, decide_true, decide_false, Bool.true_and, Bool.and_true, Bool.false_and, Bool.and_false, false_and, and_false, Bool.false_eq_true, Bool.true_eq_false, reduceCtorEq, eq_self, if_true, if_false, true_and, and_true, not_true_eq_false, not_false_eq_true, if_pos, if_neg, z_ite_not, false_or, or_false, true_or, or_true, SWs, swk_0, swk_1, hS, hr2, hs1, c1, cB, q, s_isOf, b1, b2, b3]
          exact ih _
    refine ⟨va_up (It (pop F)) 8 (va_up (It (pop F) 8) 0 (nI (h + 1))), ?_, fun a ha => ?_, fun y => absurd y z, fun _ => ⟨?_, ?_, ?_, ?_, ?_, ?_⟩⟩
    · refine callF_at (by omega) (by decide) (Nat.le_of_ble_eq_true rfl) (fun d' hd' => ?_)
      obtain rfl : d = d' := by omega
      show Ev X d 26 0 [.ref 8, .ref W, .int bd, .int kp, .int gd, .retAddr 0, .retAddr 0, .retAddr 0] [] (mk I J) _
      have eI0 : It 0 = va_up (va_up I1 12 (filR (h * 24) (h * 24 + 24) (nI 0) (I 12))) 13 (filR (h * 24) (h * 24 + 24) (-1) (I 13)) := by
        rw [eIt]; dsimp only; rw [kyS_0, kyS_0]
      rw [eI0] at lp
      rw [e12] at fl1 fl2
      rw [e13] at fl2
      rw [eI1] at fl1 fl2 lp
      simp (disch := first | omega | assumption | exact rfl) only [U_26_0, U_26_2, XX, QQ, WW, KK, QX, SHs, RRs, Nat.reduceAdd, Nat.reduceMul, Nat.reduceLeDiff, Nat.reduceEqDiff, List.length_cons, List.length_nil, decide_true, decide_false, Bool.true_and, Bool.and_true, Bool.false_and, Bool.and_false, false_and, and_false, Bool.false_eq_true, Bool.true_eq_false, reduceCtorEq, eq_self, if_true, if_false, true_and, and_true, not_true_eq_false, not_false_eq_true, if_pos, if_neg, z_ite_not, false_or, or_false, true_or, or_true, SWs, swk_0, swk_1, h0, fl1, fl2]
      exact lp
    · rw [vu_ne (by omega), gf _ _ (by omega) (by omega), f1 _ (by omega) (by omega) (by omega)]
    · rw [vu_eq, vu_eq]
    · rw [vu_ne (by decide), gf _ _ (by decide) (by decide), eI1, vu_ne (by decide), vu_ne (by decide), vu_eq]
    · rw [vu_ne (by decide), gf _ _ (by decide) (by decide), eI1, vu_ne (by decide), vu_eq]
    · rw [vu_ne (by decide), gf _ _ (by decide) (by decide), eI1, vu_eq]
    · rw [vu_ne (by decide), g12]
    · rw [vu_ne (by decide), g13]
