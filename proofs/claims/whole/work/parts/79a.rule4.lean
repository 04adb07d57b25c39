/-! ===== a rule's condition: the class, from end to end ===== -/
theorem segAt_app {f : Nat → Int32} {s : Nat} {a b : List Int32} (h : segAt f s (a ++ b)) : segAt f s a ∧ segAt f (s + a.length) b := by
  refine ⟨fun j hj => ?_, fun j hj => ?_⟩
  · have := h j (by rw [List.length_append]; omega)
    rw [this, List.getD_eq_getElem?_getD, List.getElem?_append_left hj, ← List.getD_eq_getElem?_getD]
  · have := h (a.length + j) (by rw [List.length_append]; omega)
    rw [← Nat.add_assoc] at this
    rw [this, List.getD_eq_getElem?_getD, List.getElem?_append_right (by omega), Nat.add_sub_cancel_left, ← List.getD_eq_getElem?_getD]
section RUD
variable {X : Nat × (Nat → Int32)} {d : Nat} {I : Nat → Nat → Int32} {J : Nat → Nat → Int64} {R e : Nat} {s : Int32} {v : Option Value} {vs : Nat → Int32}
theorem c_seg (hd : 2 ≤ d) (hR : RLA R) (he : e ≤ 400) (hv : ∀ o, o < 5 → I (R + 6) o = vs (o + 1)) : ∀ (l : List (Nat × Nat)) (K K' : List Bool) (S : List Int32) (pos : Nat), ak l K = some K' → okK K S → K.length ≤ 30 → segAt (I (R + 5)) pos (segC l) → pos + (segC l).length ≤ e → At74 X d I J R s e (pos + (segC l).length) (evL vs l S) v → At74 X d I J R s e pos S v
  | [], K, K', S, pos, _, _, _, _, _, hk => hk
  | q :: l, K, K', S, pos, ha, hS, hK, hg, hp, hk => by
    rw [ak] at ha
    cases h1 : ak1 q K with
    | none => rw [h1] at ha; cases ha
    | some K1 =>
      rw [h1] at ha
      obtain ⟨g1, g2⟩ := segAt_app (a := stC q) (b := segC l) hg
      have el : (segC (q :: l)).length = (stC q).length + (segC l).length := by rw [segC, List.length_append]
      rw [el] at hp hk
      rw [← Nat.add_assoc] at hk
      have hok := okK_s (vs := vs) h1 hS
      have hl := okK_len hS
      have nx : K1.length ≤ 30 → At74 X d I J R s e (pos + (stC q).length) (evS vs q S) v := fun hK1 => c_seg hd hR he hv l K1 K' (evS vs q S) (pos + (stC q).length) ha hok hK1 g2 (by omega) hk
      rcases ak1_c h1 with ⟨q1, q2, q3, rfl⟩ | ⟨q1, K2, rfl, q2, q3, q4, rfl⟩ | ⟨q1, K2, rfl, rfl⟩ | ⟨q1, K2, rfl, rfl⟩ | ⟨q1, K2, rfl, rfl⟩ | ⟨q1, K2, rfl, rfl⟩
      · have nx := nx (by rw [List.length_cons]; omega)
        by_cases z : q.1 = 0
        · have e1 : stC q = [nI q.2] := by unfold stC; rw [if_pos z]
          have e2 : evS vs q S = nI q.2 :: S := by unfold evS; rw [if_pos z]
          rw [e1] at g1 nx hp
          rw [e2] at nx
          have c0 := g1 0 (Nat.succ_pos _)
          have hp1 : pos + (1 + (segC l).length) ≤ e := hp
          exact a_num hd hR (by omega) he c0 q3 (by omega) nx
        · have e1 : stC q = [-(nI (opC q.1))] := by unfold stC; rw [if_neg z, if_neg (by omega)]
          have e2 : evS vs q S = vs q.1 :: S := by unfold evS; rw [if_neg z, if_pos q1]
          rw [e1] at g1 nx hp
          rw [e2] at nx
          have c0 : I (R + 5) pos = -(nI (opC q.1)) := g1 0 (Nat.succ_pos _)
          have hp1 : pos + (1 + (segC l).length) ≤ e := hp
          have e3 : opC q.1 = 271 + (q.1 - 1) := by
            have : ∀ o, o < 6 → ¬ o = 0 → opC o = 271 + (o - 1) := by decide
            exact this _ q1 z
          rw [e3] at c0
          have hx := hv (q.1 - 1) (by omega)
          rw [show q.1 - 1 + 1 = q.1 by omega] at hx
          exact a_var hd hR (by omega) he c0 (by omega) hx (by omega) nx
      · have nx := nx (by rw [List.length_cons]; omega)
        obtain ⟨y, S1, rfl, _, h2⟩ := okK_c hS
        have hl2 := okK_len h2
        have e1 : stC q = [nI q.2, -(nI 47)] := by unfold stC; rw [if_neg (by omega), if_pos q1]
        have e2 : evS vs q (y :: S1) = (y / nI q.2) :: S1 := by
          unfold evS
          rw [if_neg (by omega), if_neg (by omega)]
          dsimp only
          rw [if_pos q1]
        rw [e1] at g1 nx hp
        rw [e2] at nx
        have c0 : I (R + 5) pos = nI q.2 := g1 0 (Nat.succ_pos _)
        have c1 : I (R + 5) (pos + 1) = -(nI 47) := g1 1 (Nat.le_refl _)
        have hp1 : pos + (2 + (segC l).length) ≤ e := hp
        exact a_num hd hR (by omega) he c0 q4 (by rw [List.length_cons]; omega) (a_bin hd hR (by omega) he c1 (by omega) (by omega) (fun M => c_joinD (by omega) M q3 q4) (by omega) nx)
      · have nx := nx (by rw [List.length_cons] at hK ⊢; omega)
        rw [List.length_cons] at hK
        obtain ⟨y, S1, rfl, _, h2⟩ := okK_c hS
        have hl2 := okK_len h2
        have e1 : stC q = [-(nI 270)] := by unfold stC; rw [if_neg (by omega), if_neg (by omega), q1]; rfl
        have e2 : evS vs q (y :: S1) = (nI 1 - y) :: S1 := by
          unfold evS
          rw [if_neg (by omega), if_neg (by omega)]
          dsimp only
          rw [if_neg (by omega), if_pos q1]
        rw [e1] at g1 nx hp
        rw [e2] at nx
        have c0 : I (R + 5) pos = -(nI 270) := g1 0 (Nat.succ_pos _)
        have hp1 : pos + (1 + (segC l).length) ≤ e := hp
        exact a_not hd hR (by omega) he c0 (by omega) nx
      all_goals
        have nx := nx (by rw [List.length_cons, List.length_cons] at hK; rw [List.length_cons]; omega)
        rw [List.length_cons, List.length_cons] at hK
        obtain ⟨y, S1, rfl, _, h2⟩ := okK_c hS
        obtain ⟨x, S2, rfl, _, h3⟩ := okK_c h2
        have hl2 := okK_len h3
        have e1 : stC q = [-(nI (opC q.1))] := by unfold stC; rw [if_neg (by omega), if_neg (by omega)]
        have e2 : evS vs q (y :: x :: S2) = boF q.1 x y :: S2 := by
          unfold evS
          rw [if_neg (by omega), if_neg (by omega)]
          dsimp only
          rw [if_neg (by omega), if_neg (by omega)]
        rw [e1] at g1 nx hp
        rw [e2] at nx
        have c0 : I (R + 5) pos = -(nI (opC q.1)) := g1 0 (Nat.succ_pos _)
        have hp1 : pos + (1 + (segC l).length) ≤ e := hp
        have oc : 0 < opC q.1 ∧ opC q.1 < 270 := by
          have : ∀ o, o < 16 → 6 ≤ o → o ≠ 13 → 0 < opC o ∧ opC o < 270 := by decide
          exact this q.1 (by omega) (by omega) (by omega)
        exact a_bin hd hR (by omega) he c0 oc.1 oc.2 (fun M => c_join (by omega) M (by omega)) (by omega) nx
theorem s_holds {st : Nat} {l : List (Nat × Nat)} {b : Bool} (hd : 3 ≤ d) (hR : RLA R) (he : e ≤ 400) (hv : ∀ o, o < 5 → I (R + 6) o = vs (o + 1)) (ha : ak l [] = some [true]) (hg : segAt (I (R + 5)) st (segC l)) (hp : e = st + (segC l).length) (hb : evL vs l [] = [bI b]) :
    ∃ f m, callF X d 74 [.ref R, .int (nI st), .int (nI e)] (mk I J) = some (some (.int (bI b)), mk (pS I R f m) J) := by
  obtain ⟨d, rfl⟩ : ∃ d', d = d' + 1 := ⟨d - 1, by omega⟩
  have fin : At74 X d I J R (nI st) e (st + (segC l).length) (evL vs l []) (some (.int (bI b))) := by
    rw [hb, ← hp]
    intro f hf u4 u5 u6
    obtain ⟨t1, _⟩ := stk_top hf
    refine ⟨f, 0, ?_⟩
    have po := c_pop (X := X) (d := d) (I := I) (J := J) (f := f) (n := 0) (by omega) hR (by omega)
    rw [show f 0 = bI b from t1] at po
    obtain ⟨r1, r2, r3, r4, r5, r6, r7, _⟩ := hR
    show Ev X d 74 1 [.ref R, .int (nI st), .int (nI e), .int (nI e), u4, u5, u6] [] (mk (pS I R f (0 + 1)) J) _
    obtain ⟨P, eP⟩ : ∃ P, P = pS I R f (0 + 1) := ⟨_, rfl⟩
    rw [← eP] at po
    rw [← eP]
    rw [U_74_1]
    cases b with
    | true => simp (disch := first | omega | assumption | exact rfl) only [U_74_11, U_74_12, U_74_13, U_74_14, XX, QQ, WW, KK, QX, SHs, RRs, Nat.reduceAdd, Nat.reduceMul, Nat.reduceLeDiff, Nat.reduceEqDiff, List.length_cons, List.length_nil, decide_true, decide_false, Bool.true_and, Bool.and_true, Bool.false_and, Bool.and_false, false_and, and_false, Bool.false_eq_true, Bool.true_eq_false, reduceCtorEq, eq_self, if_true, if_false, true_and, and_true, not_true_eq_false, not_false_eq_true, if_pos, if_neg, z_ite_not, false_or, or_false, true_or, or_true, SWs, swk_0, swk_1, r1, po]
    | false => simp (disch := first | omega | assumption | exact rfl) only [U_74_11, U_74_12, U_74_13, U_74_14, XX, QQ, WW, KK, QX, SHs, RRs, Nat.reduceAdd, Nat.reduceMul, Nat.reduceLeDiff, Nat.reduceEqDiff, List.length_cons, List.length_nil, decide_true, decide_false, Bool.true_and, Bool.and_true, Bool.false_and, Bool.and_false, false_and, and_false, Bool.false_eq_true, Bool.true_eq_false, reduceCtorEq, eq_self, if_true, if_false, true_and, and_true, not_true_eq_false, not_false_eq_true, if_pos, if_neg, z_ite_not, false_or, or_false, true_or, or_true, SWs, swk_0, swk_1, r1, po]
  obtain ⟨f', m', hE⟩ := c_seg (X := X) (J := J) (s := nI st) (by omega) hR he hv l [] [true] [] st ha trivial (Nat.zero_le _) hg (by omega) fin (I (R + 7)) (fun i hi => absurd hi (Nat.not_lt_zero i)) (.retAddr 0) (.retAddr 0) (.retAddr 0)
  refine ⟨f', m', ?_⟩
  refine callF_at (by omega) (by decide) (Nat.le_of_ble_eq_true rfl) (fun d' hd' => ?_)
  obtain rfl : d = d' := by omega
  show Ev X d 74 0 [.ref R, .int (nI st), .int (nI e), .retAddr 0, .retAddr 0, .retAddr 0, .retAddr 0] [] (mk I J) _
  obtain ⟨r1, r2, r3, r4, r5, r6, r7, _⟩ := hR
  have eI : pS I R (I (R + 7)) ([] : List Int32).length = va_up I R (va_up (I R) 9 (nI 0)) := by
    unfold pS
    rw [vu_id]; rfl
  rw [eI] at hE
  simp (disch := first | omega | assumption | exact rfl) only [U_74_0, XX, QQ, WW, KK, QX, SHs, RRs, Nat.reduceAdd, Nat.reduceMul, Nat.reduceLeDiff, Nat.reduceEqDiff, List.length_cons, List.length_nil, decide_true, decide_false, Bool.true_and, Bool.and_true, Bool.false_and, Bool.and_false, false_and, and_false, Bool.false_eq_true, Bool.true_eq_false, reduceCtorEq, eq_self, if_true, if_false, true_and, and_true, not_true_eq_false, not_false_eq_true, if_pos, if_neg, z_ite_not, false_or, or_false, true_or, or_true, SWs, swk_0, swk_1, r1]
  exact hE
end RUD
