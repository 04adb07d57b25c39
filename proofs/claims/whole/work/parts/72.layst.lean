/-! ===== layings: the class, from the top ===== -/
theorem c_tryAll {X : Nat × (Nat → Int32)} {d : Nat} {I : Nat → Nat → Int32} {J : Nat → Nat → Int64} {W FS F1 al be : Nat} {mks : Nat → Nat} (hd : 20 ≤ d) (hW : WG (mk I J) W F1) (hWd : W + 3 < 137) (hB : WB (I (W + 1)) (pop F1)) (hFS : FS < 2 ^ 64) (hn1 : pop FS ≤ 7) (hn : fb_ct (isB (I (W + 1))) (pop F1) = pop FS) (hal : I 1 1 = nI al) (hal2 : al < 2) (hbe : I 1 2 = nI be) (hbe2 : be ≤ 24) (hm : ∀ k, k < 24 → I 2 k = nI (mks k)) (hm4 : ∀ k, k < 24 → mks k < 4) :
    ∃ I' J', callF X d 33 [.ref 161, .ref 1, .ref W, .long (lN FS)] (mk I J) = some (none, mk I' J') ∧ CI I J' (pop FS) be F1 (I (W + 1)) FS al mks (ins F1 (I (W + 1))) I' (allT (fL be F1 (I (W + 1)) FS al mks) (pop FS) 0 (ins F1 (I (W + 1))) (fun _ => 0) (25, 0, 0, 0, fun _ => 0)) ∧ (∀ k, k < 137 → J' k = J k) := by
  obtain ⟨B1, eB⟩ : ∃ B1, B1 = I (W + 1) := ⟨_, rfl⟩
  rw [← eB] at hB hn
  rw [← eB]
  obtain ⟨L0, eL⟩ : ∃ L0, L0 = ins F1 B1 := ⟨_, rfl⟩
  have hL24 : L0 < 2 ^ 24 := by rw [eL]; exact ins_lt _ _
  have hct : fb_ct L0.testBit 24 = pop FS := by rw [← pop24 hL24, eL, pop_ins hB, hn]
  rw [← eL]
  obtain ⟨n, en⟩ : ∃ n, n = pop FS := ⟨_, rfl⟩
  rw [← en] at hct hn1
  obtain ⟨d, rfl⟩ : ∃ d', d = d' + 1 := ⟨d - 1, by omega⟩
  have l := s_learn (X := X) (d := d) (by omega) NA_166 (by decide) hW (by omega) (by rw [← eB]; exact hB) hal hal2 hm hm4
  rw [← eB] at l
  obtain ⟨I1, eI1⟩ : ∃ I1, I1 = Ilrn I 166 F1 B1 al mks := ⟨_, rfl⟩
  have i1L : LN I1 166 F1 B1 al mks := by rw [eI1]; exact Ilrn_LN
  have i1f : ∀ a, a < 166 ∨ 168 < a → I1 a = I a := fun a ha => by rw [eI1]; exact Ilrn_fr ha
  rw [← eI1] at l
  have hWA : WA (mk (va_up I1 161 (va_up (I1 161) 5 (nI be))) J) 162 := ⟨rfl, rfl, rfl, rfl, rfl, rfl, rfl⟩
  obtain ⟨I2, J2, r1, r2, r3, r4, r5⟩ := c_raise (X := X) (d := d) (by omega) hWA hFS (by omega)
  have f2 : ∀ a, a < 137 → I2 a = I a := fun a ha => by rw [r4 a (by omega), vu_ne (by omega), i1f a (by omega)]
  have hW2 : WG (mk I2 J2) W F1 := WG_fr hW (fun a h1 h2 => f2 a (by omega)) (r5 W (by omega))
  have i25 : I2 161 5 = nI be := by rw [r4 _ (by omega), vu_eq, vu_eq]
  have be1 : I1 1 2 = nI be := by rw [i1f _ (by omega)]; exact hbe
  have hS : SH W = (9, 5) := hW.1.1
  -- the row of the bricks
  obtain ⟨rw', erw⟩ : ∃ f : Nat → Nat → Int32, f = fun b j => if j < fb_ct L0.testBit b then nI (kth L0.testBit 24 j) else I2 169 j := ⟨_, rfl⟩
  have r0 : rw' 0 = I2 169 := by rw [erw]; funext j; exact if_neg (by simp [fb_ct])
  have rs1 : ∀ b, L0.testBit b = true → b < 24 → va_up (rw' b) (fb_ct L0.testBit b) (nI b) = rw' (b + 1) := fun b z hb => by
    rw [erw]; funext j; unfold va_up; dsimp only
    rw [fb_ct_succ, if_pos z]
    by_cases y : j = fb_ct L0.testBit b
    · rw [if_pos y, if_pos (by omega), y, kth_ct hb z]
    · rw [if_neg y]
      by_cases y2 : j < fb_ct L0.testBit b
      · rw [if_pos y2, if_pos (by omega)]
      · rw [if_neg y2, if_neg (by omega)]
  have rs0 : ∀ b, ¬ L0.testBit b = true → rw' (b + 1) = rw' b ∧ fb_ct L0.testBit (b + 1) = fb_ct L0.testBit b := fun b z => by
    have e : fb_ct L0.testBit (b + 1) = fb_ct L0.testBit b := by rw [fb_ct_succ, if_neg z, Nat.add_zero]
    exact ⟨by rw [erw]; funext j; dsimp only; rw [e], e⟩
  have lp : ∀ (I' : Nat → Nat → Int32), (∀ u : Value, Ev X d 33 6 [.ref 161, .ref 1, .ref W, .long (lN FS), u, .int (nI 24)] [] (mk (va_up (va_up I2 161 (va_up (I2 161) 4 (nI n))) 169 (rw' 24)) J2) (none, mk I' J2)) → ∀ u : Value, Ev X d 33 1 [.ref 161, .ref 1, .ref W, .long (lN FS), u, .int (nI 0)] [] (mk (va_up I2 161 (va_up (I2 161) 4 (nI 0))) J2) (none, mk I' J2) := by
    intro I' hE u
    refine lpI (n := 24) (P := fun b => ∀ u : Value, Ev X d 33 1 [.ref 161, .ref 1, .ref W, .long (lN FS), u, .int (nI b)] [] (mk (va_up (va_up I2 161 (va_up (I2 161) 4 (nI (fb_ct L0.testBit b)))) 169 (rw' b)) J2) (none, mk I' J2)) ?_ ?_ (fun L => ?_)
    · intro u
      rw [hct, U_33_1]
      simp (disch := first | omega | assumption | exact rfl) only [U_33_1, XX, QQ, WW, KK, QX, SHs, RRs, Nat.reduceAdd, Nat.reduceMul, Nat.reduceLeDiff, Nat.reduceEqDiff, List.length_cons, List.length_nil, decide_true, decide_false, Bool.true_and, Bool.and_true, Bool.false_and, Bool.and_false, false_and, and_false, Bool.false_eq_true, Bool.true_eq_false, reduceCtorEq, eq_self, if_true, if_false, true_and, and_true, not_true_eq_false, not_false_eq_true, if_pos, if_neg, z_ite_not, false_or, or_false, true_or, or_true, SWs, swk_0, swk_1]
      exact hE u
    · intro b hb ih u
      rw [U_33_1]
      obtain ⟨I3, eI3⟩ : ∃ I3, I3 = va_up (va_up I2 161 (va_up (I2 161) 4 (nI (fb_ct L0.testBit b)))) 169 (rw' b) := ⟨_, rfl⟩
      have f3 : ∀ a, a < 137 → I3 a = I2 a := fun a ha => by rw [eI3, vu_ne (by omega), vu_ne (by omega)]
      have hW3 : WG (mk I3 J2) W F1 := WG_fr hW2 (fun a h1 h2 => f3 a (by omega)) rfl
      have co := s_cellOf (X := X) (d := d) (b := nI b) (by omega) hW3
      have e3 : m_I (mk I3 J2) (W + 1) = B1 := by show I3 (W + 1) = B1; rw [f3 _ (by omega), f2 _ (by omega), eB]
      rw [e3, eI3] at co
      have hle : fb_ct L0.testBit b ≤ b := fb_ct_le _ _
      by_cases z : L0.testBit b = true
      · have hlt := kth_lt hb z
        rw [← rs1 b z hb, fb_ct_succ, if_pos z] at ih
        obtain ⟨j, hj, ej⟩ : ∃ j, j < pop F1 ∧ fstI B1 (nI b) (pop F1) 0 = nI j := by
          rcases fstI_spec B1 (nI b) (pop F1) 0 with ⟨_, q⟩ | ⟨j, _, q1, _, q2, _⟩
          · rw [eL] at z; unfold ins at z; rw [bs_tb] at z
            obtain ⟨_, i, i1, i2⟩ := z
            exact absurd i2 (q i (by omega) (by omega))
          · exact ⟨j, by omega, q2⟩
        have hj24 : j < 24 := by have := hW.2.2.1; omega
        rw [ej] at co
        simp (disch := first | omega | assumption | exact rfl) only [U_33_2, U_33_3, U_33_4, U_33_5, XX, QQ, WW, KK, QX, SHs, RRs, Nat.reduceAdd, Nat.reduceMul, Nat.reduceLeDiff, Nat.reduceEqDiff, List.length_cons, List.length_nil, decide_true, decide_false, Bool.true_and, Bool.and_true, Bool.false_and, Bool.and_false, false_and, and_false, Bool.false_eq_true, Bool.true_eq_false, reduceCtorEq, eq_self, if_true, if_false, true_and, and_true, not_true_eq_false, not_false_eq_true, if_pos, if_neg, z_ite_not, false_or, or_false, true_or, or_true, SWs, swk_0, swk_1, co, hS]
        have ec : ∀ (A B : Nat → Int32) (R : Nat → Int32), va_up (va_up (va_up I2 161 A) 169 R) 161 B = va_up (va_up I2 161 B) 169 R := fun A B R => by
          funext a
          by_cases q1 : a = 161
          · subst q1; rw [vu_eq, vu_ne (by decide), vu_eq]
          · rw [vu_ne q1]
            by_cases q2 : a = 169
            · subst q2; rw [vu_eq, vu_eq]
            · rw [vu_ne q2, vu_ne q2, vu_ne q1, vu_ne q1]
        rw [ec]
        exact ih _
      · rw [(rs0 b z).1, (rs0 b z).2] at ih
        have ej : fstI B1 (nI b) (pop F1) 0 = -1 := by
          rcases fstI_spec B1 (nI b) (pop F1) 0 with ⟨q, _⟩ | ⟨j, _, q1, q2, _⟩
          · exact q
          · refine absurd ?_ z
            rw [eL]; unfold ins; rw [bs_tb]; exact ⟨hb, j, by omega, q2⟩
        rw [ej] at co
        by_cases y : fb_ct L0.testBit b < 7
        · simp (disch := first | omega | assumption | exact rfl) only [U_33_2, U_33_3, U_33_5, XX, QQ, WW, KK, QX, SHs, RRs, Nat.reduceAdd, Nat.reduceMul, Nat.reduceLeDiff, Nat.reduceEqDiff, List.length_cons, List.length_nil, decide_true, decide_false, Bool.true_and, Bool.and_true, Bool.false_and, Bool.and_false, false_and, and_false, Bool.false_eq_true, Bool.true_eq_false, reduceCtorEq, eq_self, if_true, if_false, true_and, and_true, not_true_eq_false, not_false_eq_true, if_pos, if_neg, z_ite_not, false_or, or_false, true_or, or_true, SWs, swk_0, swk_1, co, hS]
          exact ih _
        · simp (disch := first | omega | assumption | exact rfl) only [U_33_2, U_33_5, XX, QQ, WW, KK, QX, SHs, RRs, Nat.reduceAdd, Nat.reduceMul, Nat.reduceLeDiff, Nat.reduceEqDiff, List.length_cons, List.length_nil, decide_true, decide_false, Bool.true_and, Bool.and_true, Bool.false_and, Bool.and_false, false_and, and_false, Bool.false_eq_true, Bool.true_eq_false, reduceCtorEq, eq_self, if_true, if_false, true_and, and_true, not_true_eq_false, not_false_eq_true, if_pos, if_neg, z_ite_not, false_or, or_false, true_or, or_true, SWs, swk_0, swk_1, co, hS]
          exact ih _
    · rw [r0] at L
      have e : va_up (va_up I2 161 (va_up (I2 161) 4 (nI (fb_ct L0.testBit 0)))) 169 (I2 169) = va_up I2 161 (va_up (I2 161) 4 (nI 0)) := vu_same (vu_ne (by decide))
      rw [e] at L; exact L u
  -- where the trying starts
  obtain ⟨I4, eI4⟩ : ∃ I4, I4 = va_up (va_up (va_up I2 161 (va_up (I2 161) 4 (nI n))) 169 (rw' 24)) 161 (va_up (va_up (va_up (va_up (va_up (I2 161) 4 (nI n)) 6 (nI 25)) 7 (nI 0)) 8 (nI 0)) 9 (nI 0)) := ⟨_, rfl⟩
  have f4 : ∀ a, a ≠ 161 → a ≠ 169 → I4 a = I2 a := fun a h1 h2 => by rw [eI4, vu_ne h1, vu_ne h2, vu_ne h1]
  have hC : CI I J2 n be F1 B1 FS al mks L0 I4 (25, 0, 0, nI 0, fun _ => 0) := by
    refine ⟨fun a ha => ?_, ?_, ⟨fun b hb => ?_, ?_, fun k hk => ?_⟩, fun i h1 h2 => ?_, fun j hj => ?_, ?_, ?_, ?_, ?_, ?_, ?_, ?_, ?_, ?_, fun z => ?_⟩
    · rw [f4 a (by omega) (by omega), r4 a (by omega), vu_ne (by omega), i1f a (by omega)]
    · exact WG_fr r2 (fun a h1 h2 => f4 a (by omega) (by omega)) rfl
    · rw [f4 _ (by decide) (by decide), r4 _ (by omega), vu_ne (by decide)]; exact i1L.1 b hb
    · rw [f4 _ (by decide) (by decide), r4 _ (by omega), vu_ne (by decide)]; exact i1L.2.1
    · rw [f4 _ (by decide) (by decide), r4 _ (by omega), vu_ne (by decide)]; exact i1L.2.2 k hk
    · rw [f4 _ (by decide) (by decide)]; exact r3 i h2
    · rw [eI4, vu_ne (by decide), vu_eq, erw]; exact if_pos (by omega)
    · rw [eI4, vu_eq]; rfl
    · rw [eI4, vu_eq, vu_ne (by decide), vu_ne (by decide), vu_ne (by decide), vu_ne (by decide), vu_ne (by decide)]; exact i25
    · rw [eI4, vu_eq]; rfl
    · rw [eI4, vu_eq]; rfl
    · rw [eI4, vu_eq]; rfl
    · rw [eI4, vu_eq]; rfl
    · exact Nat.le_refl _
    · exact Nat.zero_le _
    · exact Nat.zero_le _
    · exact absurd z (by decide)
  obtain ⟨I5, o1, o2, o3⟩ := c_orders (X := X) hn1 en.symm hbe2 hm4 hct n 0 0 L0 (fun _ => 0) _ I4 d (by omega) (by omega) (by decide) (fun b hb => by rw [Nat.zero_testBit]; exact ⟨fun q => ⟨q, rfl⟩, fun q => q.1⟩) ⟨fun i hi => by omega, fun i j hi => by omega⟩ hC (fun i hi => by omega)
  rw [← en]
  refine ⟨I5, J2, ?_, o2, fun k hk => r5 k (by omega)⟩
  refine callF_at (by omega) (by decide) (Nat.le_of_ble_eq_true rfl) (fun d' hd' => ?_)
  obtain rfl : d = d' := by omega
  show Ev X d 33 0 [.ref 161, .ref 1, .ref W, .long (lN FS), .retAddr 0, .retAddr 0] [] (mk I J) _
  have LL := lp I5 (fun u => by
    rw [eI4] at o1
    simp (disch := first | omega | assumption | exact rfl) only [U_33_6, XX, QQ, WW, KK, QX, SHs, RRs, Nat.reduceAdd, Nat.reduceMul, Nat.reduceLeDiff, Nat.reduceEqDiff, List.length_cons, List.length_nil, decide_true, decide_false, Bool.true_and, Bool.and_true, Bool.false_and, Bool.and_false, false_and, and_false, Bool.false_eq_true, Bool.true_eq_false, reduceCtorEq, eq_self, if_true, if_false, true_and, and_true, not_true_eq_false, not_false_eq_true, if_pos, if_neg, z_ite_not, false_or, or_false, true_or, or_true, SWs, swk_0, swk_1, o1]) 
  simp (disch := first | omega | assumption | exact rfl) only [U_33_0, XX, QQ, WW, KK, QX, SHs, RRs, Nat.reduceAdd, Nat.reduceMul, Nat.reduceLeDiff, Nat.reduceEqDiff, List.length_cons, List.length_nil, decide_true, decide_false, Bool.true_and, Bool.and_true, Bool.false_and, Bool.and_false, false_and, and_false, Bool.false_eq_true, Bool.true_eq_false, reduceCtorEq, eq_self, if_true, if_false, true_and, and_true, not_true_eq_false, not_false_eq_true, if_pos, if_neg, z_ite_not, false_or, or_false, true_or, or_true, SWs, swk_0, swk_1, l, be1, r1]
  exact LL _
