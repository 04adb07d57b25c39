/-! ===== set, spares ===== -/
theorem Inv_top {I I' : Nat → Nat → Int32} {J : Nat → Nat → Int64} (h : Inv I J) (hC : ∀ k, k ≠ 1 → k ≠ 2 → k ≠ 3 → k ≠ 178 → I' k = I k) (h14 : I' 1 4 = I 1 4) (hr : ∀ i, 70 ≤ i → I' 178 i = I 178 i) (h4 : I' 178 4 = I 178 4) (hsc : WSc I' 0 178) (hmk : WMk I' 0 178) : Inv I' J := by
  obtain ⟨⟨_, _, c3, c4, c5, c6, c7⟩, ⟨pb, p1, p2, p3⟩, ⟨tl, t1, t2, t3, t4⟩, g1, g2⟩ := h
  have hC' : ∀ k, 3 < k → k ≠ 178 → I' k = I k := fun k k1 k2 => hC k (by omega) (by omega) (by omega) k2
  refine ⟨⟨hsc, hmk, ?_, ?_, ?_, ?_, ?_⟩, ⟨pb, ?_, ?_, fun z => ?_⟩, ⟨tl, t1, ?_, ?_, fun i hi => ?_⟩, ?_, ?_⟩
  · obtain ⟨FS, q⟩ := c3
    refine ⟨FS, fun s hs => ?_⟩
    obtain ⟨q1, q2, q3, q4, q5⟩ := q s hs
    refine ⟨q1, q2, q3, ?_, fun i hi => ?_⟩
    · rw [hr _ (by omega)]; exact q4
    · rw [hr _ (by omega), hr _ (by omega)]; exact q5 i hi
  · exact WWl_tr (fun a ha => WA_0 ha) (fun a ha => rfl) (fun a ha => ⟨by rw [hC' _ (by omega) (by omega)], fun i _ => by rw [hC' _ (by omega) (by omega)], fun i _ => by rw [hC' _ (by omega) (by omega)], fun i _ => by rw [hC' _ (by omega) (by omega)]⟩) (fun i _ _ => hr i (by omega)) c4
  · exact WMt_tr h14 (fun i _ => by rw [hC' _ (by omega) (by omega)]) (fun i _ _ => hr i (by omega)) c5
  · exact WHi_tr (by rw [hC' _ (by omega) (by omega)]) (fun i _ => ⟨by rw [hC' _ (by omega) (by omega)], by rw [hC' _ (by omega) (by omega)], by rw [hC' _ (by omega) (by omega)]⟩) (fun i _ => ⟨by rw [hC' _ (by omega) (by omega)], by rw [hC' _ (by omega) (by omega)]⟩) h4 (fun i _ _ => hr i (by omega)) c6
  · exact WRu_tr (fun k _ => by rw [hC' _ (by omega) (by omega)]) (fun k _ i _ => ⟨by rw [hC' _ (by omega) (by omega)], by rw [hC' _ (by omega) (by omega)], by rw [hC' _ (by omega) (by omega)], by rw [hC' _ (by omega) (by omega)]⟩) (fun k _ i _ => by rw [hC' _ (by omega) (by omega)]) (fun i _ _ => hr i (by omega)) c7
  · rw [hC _ (by decide) (by decide) (by decide) (by decide)]; exact p1
  · rw [hC' _ (by decide) (by decide)]; exact p2
  · exact WRel_fr (fun a ha => WA_61 ha) (fun k _ _ => hC' k (by omega) (by omega)) (fun k _ _ => rfl) (hC' _ (by decide) (by decide)) (p3 z)
  · rw [hC _ (by decide) (by decide) (by decide) (by decide)]; exact t2
  · rw [hC' _ (by decide) (by decide)]; exact t3
  · rw [hC' _ (by decide) (by decide), hC' _ (by decide) (by decide)]; exact t4 i hi
  · rw [hC' _ (by decide) (by decide), hC' _ (by decide) (by decide)]; exact g1
  · rw [hC' _ (by decide) (by decide), hC' _ (by decide) (by decide)]; exact g2
theorem b_set {X : Nat × (Nat → Int32)} {d : Nat} {I : Nat → Nat → Int32} {J : Nat → Nat → Int64} {u v : Int32} (hd : 3 ≤ d) (h : Inv I J) : Both X d 120 197 [.int u, .int v] I J := by
  obtain ⟨s0, al, be, yr, s1, s2, s3, s4, s5, s6, s7, s8, s9⟩ := Inv_sc h
  obtain ⟨mks, brk, hm⟩ := Inv_mk h
  by_cases hv : v < 0
  · have hv1 : ¬ 0 ≤ v := (fa_of_lt hv).2.1
    have hv2 : ∀ w, (decide (nI 0 ≤ v) && decide (v ≤ w)) = false := fun w => by
      have : ¬ nI 0 ≤ v := hv1
      simp [this]
    have hv3 := hv2 (nI 1); have hv4 := hv2 (nI 24); have hv5 := hv2 (nI 3)
    refine Both_0 (nI 0) h ?_ ?_
    · refine callF_at (by omega) (by decide) (Nat.le_of_ble_eq_true rfl) (fun d _ => ?_)
      show Ev X d 120 0 [.ref 0, .int u, .int v] [] ( mk I J) _
      simp (disch := first | omega | assumption | exact rfl) only [U_120_0, U_120_1, XX, QQ, WW, KK, QX, SHs, RRs, Nat.reduceAdd, Nat.reduceMul, Nat.reduceLeDiff, Nat.reduceEqDiff, List.length_cons, List.length_nil, decide_true, decide_false, Bool.true_and, Bool.and_true, Bool.false_and, Bool.and_false, false_and, and_false, Bool.false_eq_true, Bool.true_eq_false, reduceCtorEq, eq_self, if_true, if_false, true_and, and_true, not_true_eq_false, not_false_eq_true, if_pos, if_neg, z_ite_not, false_or, or_false, true_or, or_true, SWs, swk_0, swk_1, hv1]
    · refine callF_at (by omega) (by decide) (Nat.le_of_ble_eq_true rfl) (fun d _ => ?_)
      show Ev X d 197 0 [.ref 177, .int u, .int v, .retAddr 0] [] ( mk I J) _
      by_cases u0 : u = 0
      · simp (disch := first | omega | assumption | exact rfl) only [U_197_0, U_197_2, U_197_3, U_197_4, U_197_5, U_197_6, XX, QQ, WW, KK, QX, SHs, RRs, Nat.reduceAdd, Nat.reduceMul, Nat.reduceLeDiff, Nat.reduceEqDiff, List.length_cons, List.length_nil, decide_true, decide_false, Bool.true_and, Bool.and_true, Bool.false_and, Bool.and_false, false_and, and_false, Bool.false_eq_true, Bool.true_eq_false, reduceCtorEq, eq_self, if_true, if_false, true_and, and_true, not_true_eq_false, not_false_eq_true, if_pos, if_neg, z_ite_not, false_or, or_false, true_or, or_true, SWs, swk_0, swk_1, u0, r_isIn, hv3]
      · by_cases u1 : u = nI 1
        · simp (disch := first | omega | assumption | exact rfl) only [U_197_0, U_197_1, U_197_2, U_197_3, U_197_4, U_197_5, U_197_6, XX, QQ, WW, KK, QX, SHs, RRs, Nat.reduceAdd, Nat.reduceMul, Nat.reduceLeDiff, Nat.reduceEqDiff, List.length_cons, List.length_nil, decide_true, decide_false, Bool.true_and, Bool.and_true, Bool.false_and, Bool.and_false, false_and, and_false, Bool.false_eq_true, Bool.true_eq_false, reduceCtorEq, eq_self, if_true, if_false, true_and, and_true, not_true_eq_false, not_false_eq_true, if_pos, if_neg, z_ite_not, false_or, or_false, true_or, or_true, SWs, swk_0, swk_1, u1, r_isIn, hv4]
        · cases m1 : (decide (nI 10 ≤ u) && decide (u ≤ nI 33)) with
          | true => simp (disch := first | omega | assumption | exact rfl) only [U_197_0, U_197_1, U_197_8, U_197_10, U_197_11, U_197_12, U_197_13, U_197_14, XX, QQ, WW, KK, QX, SHs, RRs, Nat.reduceAdd, Nat.reduceMul, Nat.reduceLeDiff, Nat.reduceEqDiff, List.length_cons, List.length_nil, decide_true, decide_false, Bool.true_and, Bool.and_true, Bool.false_and, Bool.and_false, false_and, and_false, Bool.false_eq_true, Bool.true_eq_false, reduceCtorEq, eq_self, if_true, if_false, true_and, and_true, not_true_eq_false, not_false_eq_true, if_pos, if_neg, z_ite_not, false_or, or_false, true_or, or_true, SWs, swk_0, swk_1, u0, u1, r_isIn, m1, hv5]
          | false =>
            cases m2 : (decide (nI 40 ≤ u) && decide (u ≤ nI 63)) with
            | true => simp (disch := first | omega | assumption | exact rfl) only [U_197_0, U_197_1, U_197_8, U_197_9, U_197_10, U_197_11, U_197_12, U_197_13, U_197_14, XX, QQ, WW, KK, QX, SHs, RRs, Nat.reduceAdd, Nat.reduceMul, Nat.reduceLeDiff, Nat.reduceEqDiff, List.length_cons, List.length_nil, decide_true, decide_false, Bool.true_and, Bool.and_true, Bool.false_and, Bool.and_false, false_and, and_false, Bool.false_eq_true, Bool.true_eq_false, reduceCtorEq, eq_self, if_true, if_false, true_and, and_true, not_true_eq_false, not_false_eq_true, if_pos, if_neg, z_ite_not, false_or, or_false, true_or, or_true, SWs, swk_0, swk_1, u0, u1, r_isIn, m1, m2, hv3]
            | false => simp (disch := first | omega | assumption | exact rfl) only [U_197_0, U_197_1, U_197_8, U_197_9, U_197_14, XX, QQ, WW, KK, QX, SHs, RRs, Nat.reduceAdd, Nat.reduceMul, Nat.reduceLeDiff, Nat.reduceEqDiff, List.length_cons, List.length_nil, decide_true, decide_false, Bool.true_and, Bool.and_true, Bool.false_and, Bool.and_false, false_and, and_false, Bool.false_eq_true, Bool.true_eq_false, reduceCtorEq, eq_self, if_true, if_false, true_and, and_true, not_true_eq_false, not_false_eq_true, if_pos, if_neg, z_ite_not, false_or, or_false, true_or, or_true, SWs, swk_0, swk_1, u0, u1, r_isIn, m1, m2]
  · obtain ⟨m, hmm, rfl⟩ := nI_of hv
    by_cases hu : u < 0
    · have n1 : ¬ u = 0 := fun z => by rw [z] at hu; exact absurd hu (by decide +kernel)
      have n3 : ∀ k, k < 2 ^ 31 → u < nI k := fun k hk => fa_trans hu (nI_pos' hk)
      have n2 : ¬ u = nI 1 := (fa_of_lt (n3 1 (by decide))).2.2.2.1
      have m1 := n3 10 (by decide); have m2 := n3 40 (by decide)
      have m3 : ¬ nI 10 ≤ u := (fa_of_lt m1).2.1
      have m4 : ¬ nI 40 ≤ u := (fa_of_lt m2).2.1
      refine Both_0 (nI 0) h ?_ ?_
      · refine callF_at (by omega) (by decide) (Nat.le_of_ble_eq_true rfl) (fun d _ => ?_)
        show Ev X d 120 0 [.ref 0, .int u, .int (nI m)] [] ( mk I J) _
        simp (disch := first | omega | assumption | exact rfl) only [U_120_0, U_120_2, U_120_5, U_120_8, U_120_12, U_120_16, XX, QQ, WW, KK, QX, SHs, RRs, Nat.reduceAdd, Nat.reduceMul, Nat.reduceLeDiff, Nat.reduceEqDiff, List.length_cons, List.length_nil, decide_true, decide_false, Bool.true_and, Bool.and_true, Bool.false_and, Bool.and_false, false_and, and_false, Bool.false_eq_true, Bool.true_eq_false, reduceCtorEq, eq_self, if_true, if_false, true_and, and_true, not_true_eq_false, not_false_eq_true, if_pos, if_neg, z_ite_not, false_or, or_false, true_or, or_true, SWs, swk_0, swk_1, n1, n2, m1, m2]
      · refine callF_at (by omega) (by decide) (Nat.le_of_ble_eq_true rfl) (fun d _ => ?_)
        show Ev X d 197 0 [.ref 177, .int u, .int (nI m), .retAddr 0] [] ( mk I J) _
        simp (disch := first | omega | assumption | exact rfl) only [U_197_0, U_197_1, U_197_8, U_197_9, U_197_14, XX, QQ, WW, KK, QX, SHs, RRs, Nat.reduceAdd, Nat.reduceMul, Nat.reduceLeDiff, Nat.reduceEqDiff, List.length_cons, List.length_nil, decide_true, decide_false, Bool.true_and, Bool.and_true, Bool.false_and, Bool.and_false, false_and, and_false, Bool.false_eq_true, Bool.true_eq_false, reduceCtorEq, eq_self, if_true, if_false, true_and, and_true, not_true_eq_false, not_false_eq_true, if_pos, if_neg, z_ite_not, false_or, or_false, true_or, or_true, SWs, swk_0, swk_1, n1, n2, r_isIn, m3, m4]
    · obtain ⟨k, hk, rfl⟩ := nI_of hu
      have r2 : ∀ (c : Nat) (f g : Nat → Int32), ∀ k, k ≠ c → k ≠ 178 → va_up (va_up I c f) 178 g k = I k := fun c f g k k1 k2 => by rw [vu_ne k2, vu_ne k1]
      by_cases k0 : k = 0
      · subst k0
        by_cases m1 : m ≤ 1
        · refine ⟨nI 1, va_up I 1 (va_up (I 1) 1 (nI m)), J, va_up (va_up I 1 (va_up (I 1) 1 (nI m))) 178 (va_up (I 178) 1 (nI m)), ?_, ?_, ?_⟩
          · refine callF_at (by omega) (by decide) (Nat.le_of_ble_eq_true rfl) (fun d _ => ?_)
            show Ev X d 120 0 [.ref 0, .int (nI 0), .int (nI m)] [] ( mk I J) _
            simp (disch := first | omega | assumption | exact rfl) only [U_120_0, U_120_2, U_120_3, U_120_4, XX, QQ, WW, KK, QX, SHs, RRs, Nat.reduceAdd, Nat.reduceMul, Nat.reduceLeDiff, Nat.reduceEqDiff, List.length_cons, List.length_nil, decide_true, decide_false, Bool.true_and, Bool.and_true, Bool.false_and, Bool.and_false, false_and, and_false, Bool.false_eq_true, Bool.true_eq_false, reduceCtorEq, eq_self, if_true, if_false, true_and, and_true, not_true_eq_false, not_false_eq_true, if_pos, if_neg, z_ite_not, false_or, or_false, true_or, or_true, SWs, swk_0, swk_1]
          · refine callF_at (by omega) (by decide) (Nat.le_of_ble_eq_true rfl) (fun d _ => ?_)
            show Ev X d 197 0 [.ref 177, .int (nI 0), .int (nI m), .retAddr 0] [] ( mk (va_up I 1 (va_up (I 1) 1 (nI m))) J) _
            simp (disch := first | omega | assumption | exact rfl) only [U_197_0, U_197_2, U_197_3, U_197_4, U_197_5, U_197_6, U_197_7, XX, QQ, WW, KK, QX, SHs, RRs, Nat.reduceAdd, Nat.reduceMul, Nat.reduceLeDiff, Nat.reduceEqDiff, List.length_cons, List.length_nil, decide_true, decide_false, Bool.true_and, Bool.and_true, Bool.false_and, Bool.and_false, false_and, and_false, Bool.false_eq_true, Bool.true_eq_false, reduceCtorEq, eq_self, if_true, if_false, true_and, and_true, not_true_eq_false, not_false_eq_true, if_pos, if_neg, z_ite_not, false_or, or_false, true_or, or_true, SWs, swk_0, swk_1, r_isIn, Nat.add_zero]
          · have r3 : ∀ i, i ≠ 1 → va_up (va_up I 1 (va_up (I 1) 1 (nI m))) 178 (va_up (I 178) 1 (nI m)) 178 i = I 178 i := fun i hi => by rw [vu_eq, vu_ne hi]
            have r4 : ∀ i, i ≠ 1 → va_up (va_up I 1 (va_up (I 1) 1 (nI m))) 178 (va_up (I 178) 1 (nI m)) 1 i = I 1 i := fun i hi => by rw [vu_ne (by decide), vu_eq, vu_ne hi]
            refine Inv_top h (fun k k1 k2 k3 k4 => r2 _ _ _ k k1 k4) (r4 4 (by decide)) (fun i hi => r3 i (by omega)) (r3 4 (by decide)) ⟨?_, m, be, yr, by omega, s2, s3, ?_, ?_, ?_, ?_, ?_, ?_⟩ ⟨mks, brk, fun k hk => ?_⟩
            · rw [r4 0 (by decide), r3 0 (by decide)]; exact s0
            · rw [vu_ne (by decide), vu_eq, vu_eq]
            · rw [vu_eq, vu_eq]
            · rw [r4 2 (by decide)]; exact s6
            · rw [r3 2 (by decide)]; exact s7
            · rw [r4 3 (by decide)]; exact s8
            · rw [r3 3 (by decide)]; exact s9
            · rw [r2 _ _ _ (2 + 0) (by decide) (by decide), r2 _ _ _ (3 + 0) (by decide) (by decide), r3 (10 + k) (by omega), r3 (40 + k) (by omega)]; exact hm k hk
        · refine Both_0 (nI 0) h ?_ ?_
          · refine callF_at (by omega) (by decide) (Nat.le_of_ble_eq_true rfl) (fun d _ => ?_)
            show Ev X d 120 0 [.ref 0, .int (nI 0), .int (nI m)] [] ( mk I J) _
            simp (disch := first | omega | assumption | exact rfl) only [U_120_0, U_120_2, U_120_3, U_120_5, U_120_8, U_120_12, U_120_16, XX, QQ, WW, KK, QX, SHs, RRs, Nat.reduceAdd, Nat.reduceMul, Nat.reduceLeDiff, Nat.reduceEqDiff, List.length_cons, List.length_nil, decide_true, decide_false, Bool.true_and, Bool.and_true, Bool.false_and, Bool.and_false, false_and, and_false, Bool.false_eq_true, Bool.true_eq_false, reduceCtorEq, eq_self, if_true, if_false, true_and, and_true, not_true_eq_false, not_false_eq_true, if_pos, if_neg, z_ite_not, false_or, or_false, true_or, or_true, SWs, swk_0, swk_1]
          · refine callF_at (by omega) (by decide) (Nat.le_of_ble_eq_true rfl) (fun d _ => ?_)
            show Ev X d 197 0 [.ref 177, .int (nI 0), .int (nI m), .retAddr 0] [] ( mk I J) _
            simp (disch := first | omega | assumption | exact rfl) only [U_197_0, U_197_2, U_197_3, U_197_4, U_197_5, U_197_6, XX, QQ, WW, KK, QX, SHs, RRs, Nat.reduceAdd, Nat.reduceMul, Nat.reduceLeDiff, Nat.reduceEqDiff, List.length_cons, List.length_nil, decide_true, decide_false, Bool.true_and, Bool.and_true, Bool.false_and, Bool.and_false, false_and, and_false, Bool.false_eq_true, Bool.true_eq_false, reduceCtorEq, eq_self, if_true, if_false, true_and, and_true, not_true_eq_false, not_false_eq_true, if_pos, if_neg, z_ite_not, false_or, or_false, true_or, or_true, SWs, swk_0, swk_1, r_isIn]
      by_cases k1 : k = 1
      · subst k1
        by_cases m1 : m ≤ 24
        · refine ⟨nI 1, va_up I 1 (va_up (I 1) 2 (nI m)), J, va_up (va_up I 1 (va_up (I 1) 2 (nI m))) 178 (va_up (I 178) 2 (nI m)), ?_, ?_, ?_⟩
          · refine callF_at (by omega) (by decide) (Nat.le_of_ble_eq_true rfl) (fun d _ => ?_)
            show Ev X d 120 0 [.ref 0, .int (nI 1), .int (nI m)] [] ( mk I J) _
            simp (disch := first | omega | assumption | exact rfl) only [U_120_0, U_120_2, U_120_5, U_120_6, U_120_7, XX, QQ, WW, KK, QX, SHs, RRs, Nat.reduceAdd, Nat.reduceMul, Nat.reduceLeDiff, Nat.reduceEqDiff, List.length_cons, List.length_nil, decide_true, decide_false, Bool.true_and, Bool.and_true, Bool.false_and, Bool.and_false, false_and, and_false, Bool.false_eq_true, Bool.true_eq_false, reduceCtorEq, eq_self, if_true, if_false, true_and, and_true, not_true_eq_false, not_false_eq_true, if_pos, if_neg, z_ite_not, false_or, or_false, true_or, or_true, SWs, swk_0, swk_1]
          · refine callF_at (by omega) (by decide) (Nat.le_of_ble_eq_true rfl) (fun d _ => ?_)
            show Ev X d 197 0 [.ref 177, .int (nI 1), .int (nI m), .retAddr 0] [] ( mk (va_up I 1 (va_up (I 1) 2 (nI m))) J) _
            simp (disch := first | omega | assumption | exact rfl) only [U_197_0, U_197_1, U_197_2, U_197_3, U_197_4, U_197_5, U_197_6, U_197_7, XX, QQ, WW, KK, QX, SHs, RRs, Nat.reduceAdd, Nat.reduceMul, Nat.reduceLeDiff, Nat.reduceEqDiff, List.length_cons, List.length_nil, decide_true, decide_false, Bool.true_and, Bool.and_true, Bool.false_and, Bool.and_false, false_and, and_false, Bool.false_eq_true, Bool.true_eq_false, reduceCtorEq, eq_self, if_true, if_false, true_and, and_true, not_true_eq_false, not_false_eq_true, if_pos, if_neg, z_ite_not, false_or, or_false, true_or, or_true, SWs, swk_0, swk_1, r_isIn]
          · have r3 : ∀ i, i ≠ 2 → va_up (va_up I 1 (va_up (I 1) 2 (nI m))) 178 (va_up (I 178) 2 (nI m)) 178 i = I 178 i := fun i hi => by rw [vu_eq, vu_ne hi]
            have r4 : ∀ i, i ≠ 2 → va_up (va_up I 1 (va_up (I 1) 2 (nI m))) 178 (va_up (I 178) 2 (nI m)) 1 i = I 1 i := fun i hi => by rw [vu_ne (by decide), vu_eq, vu_ne hi]
            refine Inv_top h (fun k k1 k2 k3 k4 => r2 _ _ _ k k1 k4) (r4 4 (by decide)) (fun i hi => r3 i (by omega)) (r3 4 (by decide)) ⟨?_, al, m, yr, s1, m1, s3, ?_, ?_, ?_, ?_, ?_, ?_⟩ ⟨mks, brk, fun k hk => ?_⟩
            · rw [r4 0 (by decide), r3 0 (by decide)]; exact s0
            · rw [r4 1 (by decide)]; exact s4
            · rw [r3 1 (by decide)]; exact s5
            · rw [vu_ne (by decide), vu_eq, vu_eq]
            · rw [vu_eq, vu_eq]
            · rw [r4 3 (by decide)]; exact s8
            · rw [r3 3 (by decide)]; exact s9
            · rw [r2 _ _ _ (2 + 0) (by decide) (by decide), r2 _ _ _ (3 + 0) (by decide) (by decide), r3 (10 + k) (by omega), r3 (40 + k) (by omega)]; exact hm k hk
        · refine Both_0 (nI 0) h ?_ ?_
          · refine callF_at (by omega) (by decide) (Nat.le_of_ble_eq_true rfl) (fun d _ => ?_)
            show Ev X d 120 0 [.ref 0, .int (nI 1), .int (nI m)] [] ( mk I J) _
            simp (disch := first | omega | assumption | exact rfl) only [U_120_0, U_120_2, U_120_5, U_120_6, U_120_8, U_120_12, U_120_16, XX, QQ, WW, KK, QX, SHs, RRs, Nat.reduceAdd, Nat.reduceMul, Nat.reduceLeDiff, Nat.reduceEqDiff, List.length_cons, List.length_nil, decide_true, decide_false, Bool.true_and, Bool.and_true, Bool.false_and, Bool.and_false, false_and, and_false, Bool.false_eq_true, Bool.true_eq_false, reduceCtorEq, eq_self, if_true, if_false, true_and, and_true, not_true_eq_false, not_false_eq_true, if_pos, if_neg, z_ite_not, false_or, or_false, true_or, or_true, SWs, swk_0, swk_1]
          · refine callF_at (by omega) (by decide) (Nat.le_of_ble_eq_true rfl) (fun d _ => ?_)
            show Ev X d 197 0 [.ref 177, .int (nI 1), .int (nI m), .retAddr 0] [] ( mk I J) _
            simp (disch := first | omega | assumption | exact rfl) only [U_197_0, U_197_1, U_197_2, U_197_3, U_197_4, U_197_5, U_197_6, XX, QQ, WW, KK, QX, SHs, RRs, Nat.reduceAdd, Nat.reduceMul, Nat.reduceLeDiff, Nat.reduceEqDiff, List.length_cons, List.length_nil, decide_true, decide_false, Bool.true_and, Bool.and_true, Bool.false_and, Bool.and_false, false_and, and_false, Bool.false_eq_true, Bool.true_eq_false, reduceCtorEq, eq_self, if_true, if_false, true_and, and_true, not_true_eq_false, not_false_eq_true, if_pos, if_neg, z_ite_not, false_or, or_false, true_or, or_true, SWs, swk_0, swk_1, r_isIn]
      by_cases k2 : 10 ≤ k ∧ k < 34
      · obtain ⟨z1, z2⟩ := k2
        by_cases m1 : m < 4
        · refine ⟨nI 1, va_up I 2 (va_up (I 2) (k - 10) (nI m)), J, va_up (va_up I 2 (va_up (I 2) (k - 10) (nI m))) 178 (va_up (I 178) k (nI m)), ?_, ?_, ?_⟩
          · refine callF_at (by omega) (by decide) (Nat.le_of_ble_eq_true rfl) (fun d _ => ?_)
            show Ev X d 120 0 [.ref 0, .int (nI k), .int (nI m)] [] ( mk I J) _
            simp (disch := first | omega | assumption | exact rfl) only [U_120_0, U_120_2, U_120_5, U_120_8, U_120_9, U_120_10, U_120_11, XX, QQ, WW, KK, QX, SHs, RRs, Nat.reduceAdd, Nat.reduceMul, Nat.reduceLeDiff, Nat.reduceEqDiff, List.length_cons, List.length_nil, decide_true, decide_false, Bool.true_and, Bool.and_true, Bool.false_and, Bool.and_false, false_and, and_false, Bool.false_eq_true, Bool.true_eq_false, reduceCtorEq, eq_self, if_true, if_false, true_and, and_true, not_true_eq_false, not_false_eq_true, if_pos, if_neg, z_ite_not, false_or, or_false, true_or, or_true, SWs, swk_0, swk_1]
          · refine callF_at (by omega) (by decide) (Nat.le_of_ble_eq_true rfl) (fun d _ => ?_)
            show Ev X d 197 0 [.ref 177, .int (nI k), .int (nI m), .retAddr 0] [] ( mk (va_up I 2 (va_up (I 2) (k - 10) (nI m))) J) _
            simp (disch := first | omega | assumption | exact rfl) only [U_197_0, U_197_1, U_197_8, U_197_10, U_197_11, U_197_12, U_197_13, U_197_15, U_197_16, U_197_18, XX, QQ, WW, KK, QX, SHs, RRs, Nat.reduceAdd, Nat.reduceMul, Nat.reduceLeDiff, Nat.reduceEqDiff, List.length_cons, List.length_nil, decide_true, decide_false, Bool.true_and, Bool.and_true, Bool.false_and, Bool.and_false, false_and, and_false, Bool.false_eq_true, Bool.true_eq_false, reduceCtorEq, eq_self, if_true, if_false, true_and, and_true, not_true_eq_false, not_false_eq_true, if_pos, if_neg, z_ite_not, false_or, or_false, true_or, or_true, SWs, swk_0, swk_1, r_isIn, Nat.zero_add]
          · have r3 : ∀ i, i ≠ k → va_up (va_up I 2 (va_up (I 2) (k - 10) (nI m))) 178 (va_up (I 178) k (nI m)) 178 i = I 178 i := fun i hi => by rw [vu_eq, vu_ne hi]
            refine Inv_top h (fun k k1 k2 k3 k4 => r2 _ _ _ k k2 k4) (by rw [r2 _ _ _ 1 (by decide) (by decide)]) (fun i hi => r3 i (by omega)) (r3 4 (by omega)) ⟨?_, al, be, yr, s1, s2, s3, ?_, ?_, ?_, ?_, ?_, ?_⟩ ⟨fun j => if j = k - 10 then m else mks j, brk, fun j hj => ?_⟩
            · rw [r2 _ _ _ (1 + 0) (by decide) (by decide), r3 0 (by omega)]; exact s0
            · rw [r2 _ _ _ (1 + 0) (by decide) (by decide)]; exact s4
            · rw [r3 1 (by omega)]; exact s5
            · rw [r2 _ _ _ (1 + 0) (by decide) (by decide)]; exact s6
            · rw [r3 2 (by omega)]; exact s7
            · rw [r2 _ _ _ (1 + 0) (by decide) (by decide)]; exact s8
            · rw [r3 3 (by omega)]; exact s9
            · obtain ⟨q1, q2, q3, q4, q5, q6⟩ := hm j hj
              by_cases e : j = k - 10
              · simp only [if_pos e]
                refine ⟨m1, q2, ?_, ?_, ?_, ?_⟩
                · rw [vu_ne (by decide), vu_eq, e, vu_eq]
                · rw [vu_eq, show 10 + j = k by omega, vu_eq]
                · rw [r2 _ _ _ (3 + 0) (by decide) (by decide)]; exact q5
                · rw [r3 _ (by omega)]; exact q6
              · simp only [if_neg e]
                refine ⟨q1, q2, ?_, ?_, ?_, ?_⟩
                · rw [vu_ne (by decide), vu_eq, vu_ne e]; exact q3
                · rw [r3 _ (by omega)]; exact q4
                · rw [r2 _ _ _ (3 + 0) (by decide) (by decide)]; exact q5
                · rw [r3 _ (by omega)]; exact q6
        · refine Both_0 (nI 0) h ?_ ?_
          · refine callF_at (by omega) (by decide) (Nat.le_of_ble_eq_true rfl) (fun d _ => ?_)
            show Ev X d 120 0 [.ref 0, .int (nI k), .int (nI m)] [] ( mk I J) _
            simp (disch := first | omega | assumption | exact rfl) only [U_120_0, U_120_2, U_120_5, U_120_8, U_120_9, U_120_10, U_120_12, U_120_16, XX, QQ, WW, KK, QX, SHs, RRs, Nat.reduceAdd, Nat.reduceMul, Nat.reduceLeDiff, Nat.reduceEqDiff, List.length_cons, List.length_nil, decide_true, decide_false, Bool.true_and, Bool.and_true, Bool.false_and, Bool.and_false, false_and, and_false, Bool.false_eq_true, Bool.true_eq_false, reduceCtorEq, eq_self, if_true, if_false, true_and, and_true, not_true_eq_false, not_false_eq_true, if_pos, if_neg, z_ite_not, false_or, or_false, true_or, or_true, SWs, swk_0, swk_1]
          · refine callF_at (by omega) (by decide) (Nat.le_of_ble_eq_true rfl) (fun d _ => ?_)
            show Ev X d 197 0 [.ref 177, .int (nI k), .int (nI m), .retAddr 0] [] ( mk I J) _
            simp (disch := first | omega | assumption | exact rfl) only [U_197_0, U_197_1, U_197_8, U_197_10, U_197_11, U_197_12, U_197_13, U_197_14, XX, QQ, WW, KK, QX, SHs, RRs, Nat.reduceAdd, Nat.reduceMul, Nat.reduceLeDiff, Nat.reduceEqDiff, List.length_cons, List.length_nil, decide_true, decide_false, Bool.true_and, Bool.and_true, Bool.false_and, Bool.and_false, false_and, and_false, Bool.false_eq_true, Bool.true_eq_false, reduceCtorEq, eq_self, if_true, if_false, true_and, and_true, not_true_eq_false, not_false_eq_true, if_pos, if_neg, z_ite_not, false_or, or_false, true_or, or_true, SWs, swk_0, swk_1, r_isIn]
      by_cases k3 : 40 ≤ k ∧ k < 64
      · obtain ⟨z1, z2⟩ := k3
        by_cases m1 : m ≤ 1
        · refine ⟨nI 1, va_up I 3 (va_up (I 3) (k - 40) (nI m)), J, va_up (va_up I 3 (va_up (I 3) (k - 40) (nI m))) 178 (va_up (I 178) k (nI m)), ?_, ?_, ?_⟩
          · refine callF_at (by omega) (by decide) (Nat.le_of_ble_eq_true rfl) (fun d _ => ?_)
            show Ev X d 120 0 [.ref 0, .int (nI k), .int (nI m)] [] ( mk I J) _
            simp (disch := first | omega | assumption | exact rfl) only [U_120_0, U_120_2, U_120_5, U_120_8, U_120_9, U_120_12, U_120_13, U_120_14, U_120_15, XX, QQ, WW, KK, QX, SHs, RRs, Nat.reduceAdd, Nat.reduceMul, Nat.reduceLeDiff, Nat.reduceEqDiff, List.length_cons, List.length_nil, decide_true, decide_false, Bool.true_and, Bool.and_true, Bool.false_and, Bool.and_false, false_and, and_false, Bool.false_eq_true, Bool.true_eq_false, reduceCtorEq, eq_self, if_true, if_false, true_and, and_true, not_true_eq_false, not_false_eq_true, if_pos, if_neg, z_ite_not, false_or, or_false, true_or, or_true, SWs, swk_0, swk_1]
          · refine callF_at (by omega) (by decide) (Nat.le_of_ble_eq_true rfl) (fun d _ => ?_)
            show Ev X d 197 0 [.ref 177, .int (nI k), .int (nI m), .retAddr 0] [] ( mk (va_up I 3 (va_up (I 3) (k - 40) (nI m))) J) _
            simp (disch := first | omega | assumption | exact rfl) only [U_197_0, U_197_1, U_197_8, U_197_9, U_197_10, U_197_11, U_197_12, U_197_13, U_197_15, U_197_17, U_197_18, XX, QQ, WW, KK, QX, SHs, RRs, Nat.reduceAdd, Nat.reduceMul, Nat.reduceLeDiff, Nat.reduceEqDiff, List.length_cons, List.length_nil, decide_true, decide_false, Bool.true_and, Bool.and_true, Bool.false_and, Bool.and_false, false_and, and_false, Bool.false_eq_true, Bool.true_eq_false, reduceCtorEq, eq_self, if_true, if_false, true_and, and_true, not_true_eq_false, not_false_eq_true, if_pos, if_neg, z_ite_not, false_or, or_false, true_or, or_true, SWs, swk_0, swk_1, r_isIn, Nat.zero_add]
          · have r3 : ∀ i, i ≠ k → va_up (va_up I 3 (va_up (I 3) (k - 40) (nI m))) 178 (va_up (I 178) k (nI m)) 178 i = I 178 i := fun i hi => by rw [vu_eq, vu_ne hi]
            refine Inv_top h (fun k k1 k2 k3 k4 => r2 _ _ _ k k3 k4) (by rw [r2 _ _ _ 1 (by decide) (by decide)]) (fun i hi => r3 i (by omega)) (r3 4 (by omega)) ⟨?_, al, be, yr, s1, s2, s3, ?_, ?_, ?_, ?_, ?_, ?_⟩ ⟨mks, fun j => if j = k - 40 then m else brk j, fun j hj => ?_⟩
            · rw [r2 _ _ _ (1 + 0) (by decide) (by decide), r3 0 (by omega)]; exact s0
            · rw [r2 _ _ _ (1 + 0) (by decide) (by decide)]; exact s4
            · rw [r3 1 (by omega)]; exact s5
            · rw [r2 _ _ _ (1 + 0) (by decide) (by decide)]; exact s6
            · rw [r3 2 (by omega)]; exact s7
            · rw [r2 _ _ _ (1 + 0) (by decide) (by decide)]; exact s8
            · rw [r3 3 (by omega)]; exact s9
            · obtain ⟨q1, q2, q3, q4, q5, q6⟩ := hm j hj
              by_cases e : j = k - 40
              · simp only [if_pos e]
                refine ⟨q1, by omega, ?_, ?_, ?_, ?_⟩
                · rw [r2 _ _ _ (2 + 0) (by decide) (by decide)]; exact q3
                · rw [r3 _ (by omega)]; exact q4
                · rw [vu_ne (by decide), vu_eq, e, vu_eq]
                · rw [vu_eq, show 40 + j = k by omega, vu_eq]
              · simp only [if_neg e]
                refine ⟨q1, q2, ?_, ?_, ?_, ?_⟩
                · rw [r2 _ _ _ (2 + 0) (by decide) (by decide)]; exact q3
                · rw [r3 _ (by omega)]; exact q4
                · rw [vu_ne (by decide), vu_eq, vu_ne e]; exact q5
                · rw [r3 _ (by omega)]; exact q6
        · refine Both_0 (nI 0) h ?_ ?_
          · refine callF_at (by omega) (by decide) (Nat.le_of_ble_eq_true rfl) (fun d _ => ?_)
            show Ev X d 120 0 [.ref 0, .int (nI k), .int (nI m)] [] ( mk I J) _
            simp (disch := first | omega | assumption | exact rfl) only [U_120_0, U_120_2, U_120_5, U_120_8, U_120_9, U_120_12, U_120_13, U_120_14, U_120_16, XX, QQ, WW, KK, QX, SHs, RRs, Nat.reduceAdd, Nat.reduceMul, Nat.reduceLeDiff, Nat.reduceEqDiff, List.length_cons, List.length_nil, decide_true, decide_false, Bool.true_and, Bool.and_true, Bool.false_and, Bool.and_false, false_and, and_false, Bool.false_eq_true, Bool.true_eq_false, reduceCtorEq, eq_self, if_true, if_false, true_and, and_true, not_true_eq_false, not_false_eq_true, if_pos, if_neg, z_ite_not, false_or, or_false, true_or, or_true, SWs, swk_0, swk_1]
          · refine callF_at (by omega) (by decide) (Nat.le_of_ble_eq_true rfl) (fun d _ => ?_)
            show Ev X d 197 0 [.ref 177, .int (nI k), .int (nI m), .retAddr 0] [] ( mk I J) _
            simp (disch := first | omega | assumption | exact rfl) only [U_197_0, U_197_1, U_197_8, U_197_9, U_197_10, U_197_11, U_197_12, U_197_13, U_197_14, XX, QQ, WW, KK, QX, SHs, RRs, Nat.reduceAdd, Nat.reduceMul, Nat.reduceLeDiff, Nat.reduceEqDiff, List.length_cons, List.length_nil, decide_true, decide_false, Bool.true_and, Bool.and_true, Bool.false_and, Bool.and_false, false_and, and_false, Bool.false_eq_true, Bool.true_eq_false, reduceCtorEq, eq_self, if_true, if_false, true_and, and_true, not_true_eq_false, not_false_eq_true, if_pos, if_neg, z_ite_not, false_or, or_false, true_or, or_true, SWs, swk_0, swk_1, r_isIn]
      refine Both_0 (nI 0) h ?_ ?_
      · refine callF_at (by omega) (by decide) (Nat.le_of_ble_eq_true rfl) (fun d _ => ?_)
        show Ev X d 120 0 [.ref 0, .int (nI k), .int (nI m)] [] ( mk I J) _
        rcases (by omega : k < 10 ∨ (34 ≤ k ∧ k < 40) ∨ 64 ≤ k) with z | ⟨z, z'⟩ | z
        · simp (disch := first | omega | assumption | exact rfl) only [U_120_0, U_120_2, U_120_5, U_120_8, U_120_12, U_120_16, XX, QQ, WW, KK, QX, SHs, RRs, Nat.reduceAdd, Nat.reduceMul, Nat.reduceLeDiff, Nat.reduceEqDiff, List.length_cons, List.length_nil, decide_true, decide_false, Bool.true_and, Bool.and_true, Bool.false_and, Bool.and_false, false_and, and_false, Bool.false_eq_true, Bool.true_eq_false, reduceCtorEq, eq_self, if_true, if_false, true_and, and_true, not_true_eq_false, not_false_eq_true, if_pos, if_neg, z_ite_not, false_or, or_false, true_or, or_true, SWs, swk_0, swk_1]
        · simp (disch := first | omega | assumption | exact rfl) only [U_120_0, U_120_2, U_120_5, U_120_8, U_120_9, U_120_12, U_120_16, XX, QQ, WW, KK, QX, SHs, RRs, Nat.reduceAdd, Nat.reduceMul, Nat.reduceLeDiff, Nat.reduceEqDiff, List.length_cons, List.length_nil, decide_true, decide_false, Bool.true_and, Bool.and_true, Bool.false_and, Bool.and_false, false_and, and_false, Bool.false_eq_true, Bool.true_eq_false, reduceCtorEq, eq_self, if_true, if_false, true_and, and_true, not_true_eq_false, not_false_eq_true, if_pos, if_neg, z_ite_not, false_or, or_false, true_or, or_true, SWs, swk_0, swk_1]
        · simp (disch := first | omega | assumption | exact rfl) only [U_120_0, U_120_2, U_120_5, U_120_8, U_120_9, U_120_12, U_120_13, U_120_16, XX, QQ, WW, KK, QX, SHs, RRs, Nat.reduceAdd, Nat.reduceMul, Nat.reduceLeDiff, Nat.reduceEqDiff, List.length_cons, List.length_nil, decide_true, decide_false, Bool.true_and, Bool.and_true, Bool.false_and, Bool.and_false, false_and, and_false, Bool.false_eq_true, Bool.true_eq_false, reduceCtorEq, eq_self, if_true, if_false, true_and, and_true, not_true_eq_false, not_false_eq_true, if_pos, if_neg, z_ite_not, false_or, or_false, true_or, or_true, SWs, swk_0, swk_1]
      · refine callF_at (by omega) (by decide) (Nat.le_of_ble_eq_true rfl) (fun d _ => ?_)
        show Ev X d 197 0 [.ref 177, .int (nI k), .int (nI m), .retAddr 0] [] ( mk I J) _
        rcases (by omega : k < 10 ∨ (34 ≤ k ∧ k < 40) ∨ 64 ≤ k) with z | ⟨z, z'⟩ | z
        · simp (disch := first | omega | assumption | exact rfl) only [U_197_0, U_197_1, U_197_8, U_197_9, U_197_14, XX, QQ, WW, KK, QX, SHs, RRs, Nat.reduceAdd, Nat.reduceMul, Nat.reduceLeDiff, Nat.reduceEqDiff, List.length_cons, List.length_nil, decide_true, decide_false, Bool.true_and, Bool.and_true, Bool.false_and, Bool.and_false, false_and, and_false, Bool.false_eq_true, Bool.true_eq_false, reduceCtorEq, eq_self, if_true, if_false, true_and, and_true, not_true_eq_false, not_false_eq_true, if_pos, if_neg, z_ite_not, false_or, or_false, true_or, or_true, SWs, swk_0, swk_1, r_isIn]
        · simp (disch := first | omega | assumption | exact rfl) only [U_197_0, U_197_1, U_197_8, U_197_9, U_197_14, XX, QQ, WW, KK, QX, SHs, RRs, Nat.reduceAdd, Nat.reduceMul, Nat.reduceLeDiff, Nat.reduceEqDiff, List.length_cons, List.length_nil, decide_true, decide_false, Bool.true_and, Bool.and_true, Bool.false_and, Bool.and_false, false_and, and_false, Bool.false_eq_true, Bool.true_eq_false, reduceCtorEq, eq_self, if_true, if_false, true_and, and_true, not_true_eq_false, not_false_eq_true, if_pos, if_neg, z_ite_not, false_or, or_false, true_or, or_true, SWs, swk_0, swk_1, r_isIn]
        · simp (disch := first | omega | assumption | exact rfl) only [U_197_0, U_197_1, U_197_8, U_197_9, U_197_14, XX, QQ, WW, KK, QX, SHs, RRs, Nat.reduceAdd, Nat.reduceMul, Nat.reduceLeDiff, Nat.reduceEqDiff, List.length_cons, List.length_nil, decide_true, decide_false, Bool.true_and, Bool.and_true, Bool.false_and, Bool.and_false, false_and, and_false, Bool.false_eq_true, Bool.true_eq_false, reduceCtorEq, eq_self, if_true, if_false, true_and, and_true, not_true_eq_false, not_false_eq_true, if_pos, if_neg, z_ite_not, false_or, or_false, true_or, or_true, SWs, swk_0, swk_1, r_isIn]
/-! spares -/
def nxF (p : Nat → Bool) : Nat → Nat → Nat
  | 0, s => s
  | k + 1, s => if p s = true then nxF p k (s + 1) else s
theorem nxF_spec (p : Nat → Bool) : ∀ k s, s ≤ nxF p k s ∧ nxF p k s ≤ s + k ∧ (nxF p k s < s + k → p (nxF p k s) = false)
  | 0, s => ⟨Nat.le_refl _, Nat.le_refl _, fun h => absurd h (Nat.lt_irrefl _)⟩
  | k + 1, s => by
    rw [nxF]
    by_cases h : p s = true
    · rw [if_pos h]
      obtain ⟨h1, h2, h3⟩ := nxF_spec p k (s + 1)
      exact ⟨by omega, by omega, fun z => h3 (by omega)⟩
    · rw [if_neg h]
      exact ⟨Nat.le_refl _, by omega, fun _ => by simpa using h⟩
def spP (B : Nat → Int32) (brk : Nat → Nat) (N t : Nat) : Bool := decide (brk t = 1) || decide (fstI B (nI t) N 0 ≠ -1)
def spS (B0 : Nat → Int32) (brk : Nat → Nat) (N : Nat) : Nat → (Nat → Int32) × Nat × Nat × Bool
  | 0 => (B0, 0, 0, false)
  | i + 1 => if (spS B0 brk N i).2.2.2 = true then spS B0 brk N i
    else if (spS B0 brk N i).1 i = -1 ∨ brk ((spS B0 brk N i).1 i).toNatClampNeg = 0 then spS B0 brk N i
    else if nxF (spP (spS B0 brk N i).1 brk N) (24 - (spS B0 brk N i).2.1) (spS B0 brk N i).2.1 = 24 then ((spS B0 brk N i).1, 24, (spS B0 brk N i).2.2.1, true)
    else (va_up (spS B0 brk N i).1 i (nI (nxF (spP (spS B0 brk N i).1 brk N) (24 - (spS B0 brk N i).2.1) (spS B0 brk N i).2.1)), nxF (spP (spS B0 brk N i).1 brk N) (24 - (spS B0 brk N i).2.1) (spS B0 brk N i).2.1, (spS B0 brk N i).2.2.1 + 1, false)
theorem spS_s {B0 : Nat → Int32} {brk : Nat → Nat} {N i : Nat} : spS B0 brk N (i + 1) = if (spS B0 brk N i).2.2.2 = true then spS B0 brk N i else if (spS B0 brk N i).1 i = -1 ∨ brk ((spS B0 brk N i).1 i).toNatClampNeg = 0 then spS B0 brk N i else if nxF (spP (spS B0 brk N i).1 brk N) (24 - (spS B0 brk N i).2.1) (spS B0 brk N i).2.1 = 24 then ((spS B0 brk N i).1, 24, (spS B0 brk N i).2.2.1, true) else (va_up (spS B0 brk N i).1 i (nI (nxF (spP (spS B0 brk N i).1 brk N) (24 - (spS B0 brk N i).2.1) (spS B0 brk N i).2.1)), nxF (spP (spS B0 brk N i).1 brk N) (24 - (spS B0 brk N i).2.1) (spS B0 brk N i).2.1, (spS B0 brk N i).2.2.1 + 1, false) := by rw [spS]
theorem spS_stop {B0 : Nat → Int32} {brk : Nat → Nat} {N i : Nat} (h : (spS B0 brk N i).2.2.2 = true) : ∀ k, spS B0 brk N (i + k) = spS B0 brk N i
  | 0 => rfl
  | k + 1 => by
    have e := spS_stop h k
    show spS B0 brk N (i + k + 1) = _
    rw [spS, e, if_pos h]
theorem WB_put {B : Nat → Int32} {N i b : Nat} (hB : WB B N) (hi : i < N) (hb : b < 24) (hn : ∀ j, j < N → B j ≠ nI b) : WB (va_up B i (nI b)) N := by
  refine ⟨fun j hj => ?_, fun j k hj hk he hn' => ?_, fun j hj hj2 => ?_⟩
  · by_cases e : j = i
    · rw [e, vu_eq]; exact .inr ⟨b, hb, rfl⟩
    · rw [vu_ne e]; exact hB.1 j hj
  · by_cases e : j = i
    · subst e
      by_cases e' : k = j
      · exact e'.symm
      · rw [vu_eq, vu_ne e'] at he
        exact absurd he.symm (hn k hk)
    · by_cases e' : k = i
      · subst e'
        rw [vu_ne e, vu_eq] at he
        exact absurd he (hn j hj)
      · rw [vu_ne e, vu_ne e'] at he
        rw [vu_ne e] at hn'
        exact hB.2.1 j k hj hk he hn'
  · rw [vu_ne (by omega)]; exact hB.2.2 j hj hj2
theorem spS_wb {B0 : Nat → Int32} {brk : Nat → Nat} {N : Nat} (hN : N ≤ 24) (hB : WB B0 N) : ∀ i, i ≤ N → WB (spS B0 brk N i).1 N ∧ (spS B0 brk N i).2.1 ≤ 24 ∧ (spS B0 brk N i).2.2.1 ≤ i
  | 0, _ => ⟨hB, Nat.zero_le _, Nat.le_refl _⟩
  | i + 1, h => by
    obtain ⟨h1, h2, h3⟩ := spS_wb hN hB i (by omega)
    rw [spS]
    split
    · exact ⟨h1, h2, by omega⟩
    · split
      · exact ⟨h1, h2, by omega⟩
      · split
        · exact ⟨h1, Nat.le_refl _, Nat.le_succ_of_le h3⟩
        · next z =>
          obtain ⟨n1, n2, n3⟩ := nxF_spec (spP (spS B0 brk N i).1 brk N) (24 - (spS B0 brk N i).2.1) (spS B0 brk N i).2.1
          refine ⟨WB_put h1 (by omega) (by omega) (fun j hj e => ?_), by show nxF _ _ _ ≤ 24; omega, by show _ + 1 ≤ i + 1; omega⟩
          have := n3 (by omega)
          unfold spP at this
          rw [Bool.or_eq_false_iff, decide_eq_false_iff_not, decide_eq_false_iff_not] at this
          exact fstI_no (Classical.byContradiction this.2) (by omega) j hj e
theorem c_isBroken {X : Nat × (Nat → Int32)} {d : Nat} {I : Nat → Nat → Int32} {J : Nat → Nat → Int64} {b : Nat} {brk : Nat → Nat} (hd : 2 ≤ d) (hb : b < 24) (h3 : I 3 b = nI (brk b)) (h2 : brk b < 2) : callF X d 143 [.ref 0, .int (nI b)] (mk I J) = some (some (.int (bI (decide (brk b = 1)))), mk I J) := by
  refine callF_at (by omega) (by decide) (Nat.le_of_ble_eq_true rfl) (fun d _ => ?_)
  show Ev X d 143 0 [.ref 0, .int (nI b)] [] ( mk I J) _
  by_cases z : brk b = 1
  · simp (disch := first | omega | assumption | exact rfl) only [U_143_0, U_143_1, U_143_2, U_143_3, U_143_4, XX, QQ, WW, KK, QX, SHs, RRs, Nat.reduceAdd, Nat.reduceMul, Nat.reduceLeDiff, Nat.reduceEqDiff, List.length_cons, List.length_nil, decide_true, decide_false, Bool.true_and, Bool.and_true, Bool.false_and, Bool.and_false, false_and, and_false, Bool.false_eq_true, Bool.true_eq_false, reduceCtorEq, eq_self, if_true, if_false, true_and, and_true, not_true_eq_false, not_false_eq_true, if_pos, if_neg, z_ite_not, false_or, or_false, true_or, or_true, SWs, swk_0, swk_1, s_isOf, h3]
  · simp (disch := first | omega | assumption | exact rfl) only [U_143_0, U_143_1, U_143_2, U_143_3, U_143_4, XX, QQ, WW, KK, QX, SHs, RRs, Nat.reduceAdd, Nat.reduceMul, Nat.reduceLeDiff, Nat.reduceEqDiff, List.length_cons, List.length_nil, decide_true, decide_false, Bool.true_and, Bool.and_true, Bool.false_and, Bool.and_false, false_and, and_false, Bool.false_eq_true, Bool.true_eq_false, reduceCtorEq, eq_self, if_true, if_false, true_and, and_true, not_true_eq_false, not_false_eq_true, if_pos, if_neg, z_ite_not, false_or, or_false, true_or, or_true, SWs, swk_0, swk_1, s_isOf, h3]
theorem c_isBroken_n {X : Nat × (Nat → Int32)} {d : Nat} {I : Nat → Nat → Int32} {J : Nat → Nat → Int64} (hd : 2 ≤ d) : callF X d 143 [.ref 0, .int (-1)] (mk I J) = some (some (.int (bI false)), mk I J) := by
  refine callF_at (by omega) (by decide) (Nat.le_of_ble_eq_true rfl) (fun d _ => ?_)
  show Ev X d 143 0 [.ref 0, .int (-1)] [] ( mk I J) _
  simp (disch := first | omega | assumption | exact rfl) only [U_143_0, U_143_3, U_143_4, XX, QQ, WW, KK, QX, SHs, RRs, Nat.reduceAdd, Nat.reduceMul, Nat.reduceLeDiff, Nat.reduceEqDiff, List.length_cons, List.length_nil, decide_true, decide_false, Bool.true_and, Bool.and_true, Bool.false_and, Bool.and_false, false_and, and_false, Bool.false_eq_true, Bool.true_eq_false, reduceCtorEq, eq_self, if_true, if_false, true_and, and_true, not_true_eq_false, not_false_eq_true, if_pos, if_neg, z_ite_not, false_or, or_false, true_or, or_true, SWs, swk_0, swk_1, s_isOf]
theorem c_spareFrom {X : Nat × (Nat → Int32)} {d : Nat} {I : Nat → Nat → Int32} {J : Nat → Nat → Int64} {W F s : Nat} {brk : Nat → Nat} (hd : 3 ≤ d) (hG : WG (mk I J) W F) (hs : s ≤ 24) (h3 : ∀ b, b < 24 → I 3 b = nI (brk b) ∧ brk b < 2) : callF X d 144 [.ref 0, .ref W, .int (nI s)] (mk I J) = some (some (.int (nI (nxF (spP (I (W + 1)) brk (pop F)) (24 - s) s))), mk I J) := by
  have hW9 : SH W = (9, 5) := hG.1.1
  refine callF_at (by omega) (by decide) (Nat.le_of_ble_eq_true rfl) (fun d _ => ?_)
  show Ev X d 144 0 [.ref 0, .ref W, .int (nI s), .retAddr 0] [] ( mk I J) _
  simp (disch := first | omega | assumption | exact rfl) only [U_144_0, XX, QQ, WW, KK, QX, SHs, RRs, Nat.reduceAdd, Nat.reduceMul, Nat.reduceLeDiff, Nat.reduceEqDiff, List.length_cons, List.length_nil, decide_true, decide_false, Bool.true_and, Bool.and_true, Bool.false_and, Bool.and_false, false_and, and_false, Bool.false_eq_true, Bool.true_eq_false, reduceCtorEq, eq_self, if_true, if_false, true_and, and_true, not_true_eq_false, not_false_eq_true, if_pos, if_neg, z_ite_not, false_or, or_false, true_or, or_true, SWs, swk_0, swk_1]
  refine lpd (n := 24) (P := fun t => s ≤ t → Ev X d 144 1 [.ref 0, .ref W, .int (nI s), .int (nI t)] [] (mk I J) (some (.int (nI (nxF (spP (I (W + 1)) brk (pop F)) (24 - t) t))), mk I J)) ?_ ?_ s hs (Nat.le_refl s)
  · intro _
    rw [U_144_1, Nat.sub_self, nxF]
    simp (disch := first | omega | assumption | exact rfl) only [U_144_5, XX, QQ, WW, KK, QX, SHs, RRs, Nat.reduceAdd, Nat.reduceMul, Nat.reduceLeDiff, Nat.reduceEqDiff, List.length_cons, List.length_nil, decide_true, decide_false, Bool.true_and, Bool.and_true, Bool.false_and, Bool.and_false, false_and, and_false, Bool.false_eq_true, Bool.true_eq_false, reduceCtorEq, eq_self, if_true, if_false, true_and, and_true, not_true_eq_false, not_false_eq_true, if_pos, if_neg, z_ite_not, false_or, or_false, true_or, or_true, SWs, swk_0, swk_1]
  · intro t ht ih hst
    rw [U_144_1, show 24 - t = (24 - (t + 1)) + 1 by omega, nxF]
    have q := ih (by omega)
    have ib := c_isBroken (X := X) (d := d) (J := J) (by omega) ht (h3 t ht).1 (h3 t ht).2
    have co := s_cellOf (X := X) (d := d) (b := nI t) (by omega) hG
    rw [k_I] at co
    by_cases z : brk t = 1
    · have e : spP (I (W + 1)) brk (pop F) t = true := by simp [spP, z]
      rw [if_pos e]
      simp (disch := first | omega | assumption | exact rfl) only [U_144_2, U_144_4, XX, QQ, WW, KK, QX, SHs, RRs, Nat.reduceAdd, Nat.reduceMul, Nat.reduceLeDiff, Nat.reduceEqDiff, List.length_cons, List.length_nil, decide_true, decide_false, Bool.true_and, Bool.and_true, Bool.false_and, Bool.and_false, false_and, and_false, Bool.false_eq_true, Bool.true_eq_false, reduceCtorEq, eq_self, if_true, if_false, true_and, and_true, not_true_eq_false, not_false_eq_true, if_pos, if_neg, z_ite_not, false_or, or_false, true_or, or_true, SWs, swk_0, swk_1, ib]
      exact q
    · by_cases y : fstI (I (W + 1)) (nI t) (pop F) 0 = -1
      · have e : ¬ spP (I (W + 1)) brk (pop F) t = true := by simp [spP, z, y]
        rw [if_neg e]
        rw [y] at co
        simp (disch := first | omega | assumption | exact rfl) only [U_144_2, U_144_3, U_144_5, XX, QQ, WW, KK, QX, SHs, RRs, Nat.reduceAdd, Nat.reduceMul, Nat.reduceLeDiff, Nat.reduceEqDiff, List.length_cons, List.length_nil, decide_true, decide_false, Bool.true_and, Bool.and_true, Bool.false_and, Bool.and_false, false_and, and_false, Bool.false_eq_true, Bool.true_eq_false, reduceCtorEq, eq_self, if_true, if_false, true_and, and_true, not_true_eq_false, not_false_eq_true, if_pos, if_neg, z_ite_not, false_or, or_false, true_or, or_true, SWs, swk_0, swk_1, ib, hW9, co]
      · have e : spP (I (W + 1)) brk (pop F) t = true := by simp [spP, y]
        rw [if_pos e]
        simp (disch := first | omega | assumption | exact rfl) only [U_144_2, U_144_3, U_144_4, XX, QQ, WW, KK, QX, SHs, RRs, Nat.reduceAdd, Nat.reduceMul, Nat.reduceLeDiff, Nat.reduceEqDiff, List.length_cons, List.length_nil, decide_true, decide_false, Bool.true_and, Bool.and_true, Bool.false_and, Bool.and_false, false_and, and_false, Bool.false_eq_true, Bool.true_eq_false, reduceCtorEq, eq_self, if_true, if_false, true_and, and_true, not_true_eq_false, not_false_eq_true, if_pos, if_neg, z_ite_not, false_or, or_false, true_or, or_true, SWs, swk_0, swk_1, ib, hW9, co, y]
        exact q
/-- the row with bricks B in wall a -/
def rwB (f : Nat → Int32) (a : Nat) (B : Nat → Int32) : Nat → Int32 := fun j => if 668 + 24 * a ≤ j ∧ j < 692 + 24 * a then B (j - (668 + 24 * a)) else f j
theorem rwB_in {f B : Nat → Int32} {a i : Nat} (hi : i < 24) : rwB f a B (668 + 24 * a + i) = B i := by
  unfold rwB; rw [if_pos (by omega), show 668 + 24 * a + i - (668 + 24 * a) = i by omega]
theorem rwB_out {f B : Nat → Int32} {a j : Nat} (h : j < 668 + 24 * a ∨ 692 + 24 * a ≤ j) : rwB f a B j = f j := if_neg (by omega)
theorem rwB_up {f B : Nat → Int32} {a i : Nat} {v : Int32} (hi : i < 24) : va_up (rwB f a B) (668 + 24 * a + i) v = rwB f a (va_up B i v) := by
  funext j; unfold va_up rwB
  by_cases q : j = 668 + 24 * a + i
  · rw [if_pos q, if_pos (by omega)]; exact (if_pos (by omega)).symm
  · rw [if_neg q]
    by_cases q2 : 668 + 24 * a ≤ j ∧ j < 692 + 24 * a
    · rw [if_pos q2, if_pos q2]; exact (if_neg (by omega)).symm
    · rw [if_neg q2, if_neg q2]
theorem rwB_id {f B : Nat → Int32} {a : Nat} (h : ∀ i, i < 24 → f (668 + 24 * a + i) = B i) : rwB f a B = f := by
  funext j; unfold rwB
  by_cases z : 668 + 24 * a ≤ j ∧ j < 692 + 24 * a
  · rw [if_pos z, ← h _ (by omega)]; congr 1; omega
  · rw [if_neg z]
theorem rwB_wl {f B B' : Nat → Int32} {a F : Nat} (ha : a < 6) (h : RWl f a F B) : RWl (rwB f a B') a F B' := by
  obtain ⟨y1, y2, y3, y4⟩ := h
  refine ⟨y1, ?_, fun i hi => ⟨?_, ?_⟩, fun j hj => rwB_in hj⟩
  · rw [rwB_out (by omega)]; exact y2
  · rw [rwB_out (by omega)]; exact (y3 i hi).1
  · rw [rwB_out (by omega)]; exact (y3 i hi).2
theorem b_spares {X : Nat × (Nat → Int32)} {d : Nat} {I : Nat → Nat → Int32} {J : Nat → Nat → Int64} {u : Int32} (hd : 6 ≤ d) (h : Inv I J) : Both X d 142 252 [.int u] I J := by
  obtain ⟨FW, hw⟩ := Inv_wl h
  obtain ⟨mks, brk, hm⟩ := Inv_mk h
  rcases of_d u 5 6 rfl (by decide) with ⟨a, ha, rfl⟩ | ⟨o1, o2⟩
  · obtain ⟨hG, hB, hR⟩ := hw a ha
    have h24 := hG.2.2.1
    have hc : I (14 + 4 * a) 1 = nI (pop (FW a)) := hG.2.2.2.2.1
    have h370 := hR.2.1
    obtain ⟨N, hN⟩ : ∃ N, N = pop (FW a) := ⟨_, rfl⟩
    obtain ⟨W, hW⟩ : ∃ W, W = 14 + 4 * a := ⟨_, rfl⟩
    obtain ⟨B0, hB0⟩ : ∃ B0, B0 = I (14 + 4 * a + 1) := ⟨_, rfl⟩
    rw [← hB0] at hB hR
    rw [← hN] at hc h370 h24 hB
    have sp := spS_wb (brk := brk) h24 hB
    obtain ⟨S, hS⟩ : ∃ S, S = spS B0 brk N := ⟨_, rfl⟩
    rw [← hS] at sp
    have gS : ∀ i : Nat, rwB (I 178) a (S i).1 (370 + a) = I 178 (370 + a) := fun i => rwB_out (by omega)
    refine ⟨nI (S N).2.2.1, va_up I (14 + 4 * a + 1) (S N).1, J, va_up (va_up I (14 + 4 * a + 1) (S N).1) 178 (rwB (I 178) a (S N).1), ?_, ?_, ?_⟩
    · refine callF_at (by omega) (by decide) (Nat.le_of_ble_eq_true rfl) (fun d _ => ?_)
      show Ev X d 142 0 [.ref 0, .int (nI a), .retAddr 0, .retAddr 0, .retAddr 0, .retAddr 0] [] ( mk I J) _
      simp (disch := first | omega | assumption | exact rfl) only [U_142_0, U_142_2, XX, QQ, WW, KK, QX, SHs, RRs, Nat.reduceAdd, Nat.reduceMul, Nat.reduceLeDiff, Nat.reduceEqDiff, List.length_cons, List.length_nil, decide_true, decide_false, Bool.true_and, Bool.and_true, Bool.false_and, Bool.and_false, false_and, and_false, Bool.false_eq_true, Bool.true_eq_false, reduceCtorEq, eq_self, if_true, if_false, true_and, and_true, not_true_eq_false, not_false_eq_true, if_pos, if_neg, z_ite_not, false_or, or_false, true_or, or_true, SWs, swk_0, swk_1, s_isOf, WLs]
      refine lpI (n := N) (P := fun i => (S i).2.2.2 = false → Ev X d 142 3 [.ref 0, .int (nI a), .ref (14 + 4 * a), .int (nI (S i).2.2.1), .int (nI (S i).2.1), .int (nI i)] [] (mk (va_up I (14 + 4 * a + 1) (S i).1) J) (some (.int (nI (S N).2.2.1)), mk (va_up I (14 + 4 * a + 1) (S N).1) J)) ?_ ?_ (fun L => by
        have e0 : S 0 = (B0, 0, 0, false) := by rw [hS]; rfl
        rw [e0] at L
        have L := L rfl
        simp only [] at L
        rw [hB0, vu_id] at L; exact L)
      · intro _
        rw [U_142_3]
        simp (disch := first | omega | assumption | exact rfl) only [U_142_10, XX, QQ, WW, KK, QX, SHs, RRs, Nat.reduceAdd, Nat.reduceMul, Nat.reduceLeDiff, Nat.reduceEqDiff, List.length_cons, List.length_nil, decide_true, decide_false, Bool.true_and, Bool.and_true, Bool.false_and, Bool.and_false, false_and, and_false, Bool.false_eq_true, Bool.true_eq_false, reduceCtorEq, eq_self, if_true, if_false, true_and, and_true, not_true_eq_false, not_false_eq_true, if_pos, if_neg, z_ite_not, false_or, or_false, true_or, or_true, SWs, swk_0, swk_1, WLs, hc]
      · intro i hi ih hst
        rw [U_142_3]
        obtain ⟨p1, p2, p3⟩ := sp i (by omega)
        have hG' : WG (mk (va_up I (14 + 4 * a + 1) (S i).1) J) (14 + 4 * a) (FW a) := WG_tr hG.1 rfl (by rw [vu_ne (by omega)]) (fun i _ => by rw [vu_ne (by omega)]) (fun i _ => by rw [vu_ne (by omega)]) hG
        have e1 := spS_s (B0 := B0) (brk := brk) (N := N) (i := i)
        rw [← hS] at e1
        rw [if_neg (by rw [hst]; simp)] at e1
        rcases p1.1 i hi with z | ⟨b, hb, z⟩
        · rw [if_pos (.inl z)] at e1
          rw [e1] at ih
          have ib := c_isBroken_n (X := X) (d := d) (J := J) (I := va_up I (14 + 4 * a + 1) (S i).1) (by omega)
          simp (disch := first | omega | assumption | exact rfl) only [U_142_4, U_142_5, U_142_9, XX, QQ, WW, KK, QX, SHs, RRs, Nat.reduceAdd, Nat.reduceMul, Nat.reduceLeDiff, Nat.reduceEqDiff, List.length_cons, List.length_nil, decide_true, decide_false, Bool.true_and, Bool.and_true, Bool.false_and, Bool.and_false, false_and, and_false, Bool.false_eq_true, Bool.true_eq_false, reduceCtorEq, eq_self, if_true, if_false, true_and, and_true, not_true_eq_false, not_false_eq_true, if_pos, if_neg, z_ite_not, false_or, or_false, true_or, or_true, SWs, swk_0, swk_1, WLs, hc, z, ib]
          exact ih hst
        · have ib := c_isBroken (X := X) (d := d) (J := J) (I := va_up I (14 + 4 * a + 1) (S i).1) (brk := brk) (by omega) hb (by rw [vu_ne (by omega)]; exact (hm b hb).2.2.2.2.1) (hm b hb).2.1
          have hb2 := (hm b hb).2.1
          rw [z, nI_clamp (by omega)] at e1
          by_cases y : brk b = 0
          · rw [if_pos (.inr y)] at e1
            rw [e1] at ih
            simp (disch := first | omega | assumption | exact rfl) only [U_142_4, U_142_5, U_142_9, XX, QQ, WW, KK, QX, SHs, RRs, Nat.reduceAdd, Nat.reduceMul, Nat.reduceLeDiff, Nat.reduceEqDiff, List.length_cons, List.length_nil, decide_true, decide_false, Bool.true_and, Bool.and_true, Bool.false_and, Bool.and_false, false_and, and_false, Bool.false_eq_true, Bool.true_eq_false, reduceCtorEq, eq_self, if_true, if_false, true_and, and_true, not_true_eq_false, not_false_eq_true, if_pos, if_neg, z_ite_not, false_or, or_false, true_or, or_true, SWs, swk_0, swk_1, WLs, hc, z, ib]
            exact ih hst
          · rw [if_neg (by rintro (q | q); exact nI_ne (by omega) q; exact y q)] at e1
            have y1 : brk b = 1 := by omega
            have sf := c_spareFrom (X := X) (d := d) (J := J) (brk := brk) (by omega) hG' p2 (fun b hb => ⟨by rw [vu_ne (by omega)]; exact (hm b hb).2.2.2.2.1, (hm b hb).2.1⟩)
            rw [vu_eq, ← hN] at sf
            obtain ⟨n1, n2, n3⟩ := nxF_spec (spP (S i).1 brk N) (24 - (S i).2.1) (S i).2.1
            obtain ⟨nx, hnx⟩ : ∃ nx, nx = nxF (spP (S i).1 brk N) (24 - (S i).2.1) (S i).2.1 := ⟨_, rfl⟩
            rw [← hnx] at sf e1 n1 n2 n3
            by_cases w : nx = 24
            · rw [if_pos w] at e1
              have st := spS_stop (B0 := B0) (brk := brk) (N := N) (i := i + 1) (by rw [← hS, e1]) (N - (i + 1))
              rw [← hS, show i + 1 + (N - (i + 1)) = N by omega, e1] at st
              rw [st]
              simp only []
              simp (disch := first | omega | assumption | exact rfl) only [U_142_4, U_142_6, U_142_7, U_142_10, XX, QQ, WW, KK, QX, SHs, RRs, Nat.reduceAdd, Nat.reduceMul, Nat.reduceLeDiff, Nat.reduceEqDiff, List.length_cons, List.length_nil, decide_true, decide_false, Bool.true_and, Bool.and_true, Bool.false_and, Bool.and_false, false_and, and_false, Bool.false_eq_true, Bool.true_eq_false, reduceCtorEq, eq_self, if_true, if_false, true_and, and_true, not_true_eq_false, not_false_eq_true, if_pos, if_neg, z_ite_not, false_or, or_false, true_or, or_true, SWs, swk_0, swk_1, WLs, hc, z, ib, sf]
            · rw [if_neg w] at e1
              rw [e1] at ih
              have ih := ih rfl
              simp only [] at ih
              simp (disch := first | omega | assumption | exact rfl) only [U_142_4, U_142_6, U_142_8, U_142_9, XX, QQ, WW, KK, QX, SHs, RRs, Nat.reduceAdd, Nat.reduceMul, Nat.reduceLeDiff, Nat.reduceEqDiff, List.length_cons, List.length_nil, decide_true, decide_false, Bool.true_and, Bool.and_true, Bool.false_and, Bool.and_false, false_and, and_false, Bool.false_eq_true, Bool.true_eq_false, reduceCtorEq, eq_self, if_true, if_false, true_and, and_true, not_true_eq_false, not_false_eq_true, if_pos, if_neg, z_ite_not, false_or, or_false, true_or, or_true, SWs, swk_0, swk_1, WLs, hc, z, ib, sf]
              exact ih
    · refine callF_at (by omega) (by decide) (Nat.le_of_ble_eq_true rfl) (fun d _ => ?_)
      show Ev X d 252 0 [.ref 177, .int (nI a), .retAddr 0, .retAddr 0, .retAddr 0] [] ( mk (va_up I (14 + 4 * a + 1) (S N).1) J) _
      obtain ⟨I1, hI1⟩ : ∃ I1, I1 = va_up I (14 + 4 * a + 1) (S N).1 := ⟨_, rfl⟩
      have e178 : I1 178 = I 178 := by rw [hI1, vu_ne (by omega)]
      rw [← hI1]
      simp (disch := first | omega | assumption | exact rfl) only [U_252_0, U_252_2, XX, QQ, WW, KK, QX, SHs, RRs, Nat.reduceAdd, Nat.reduceMul, Nat.reduceLeDiff, Nat.reduceEqDiff, List.length_cons, List.length_nil, decide_true, decide_false, Bool.true_and, Bool.and_true, Bool.false_and, Bool.and_false, false_and, and_false, Bool.false_eq_true, Bool.true_eq_false, reduceCtorEq, eq_self, if_true, if_false, true_and, and_true, not_true_eq_false, not_false_eq_true, if_pos, if_neg, z_ite_not, false_or, or_false, true_or, or_true, SWs, swk_0, swk_1, r_isWall]
      refine lpI (n := N) (P := fun i => (S i).2.2.2 = false → Ev X d 252 3 [.ref 177, .int (nI a), .int (nI (S i).2.2.1), .int (nI (S i).2.1), .int (nI i)] [] (mk (va_up I1 178 (rwB (I 178) a (S i).1)) J) (some (.int (nI (S N).2.2.1)), mk (va_up I1 178 (rwB (I 178) a (S N).1)) J)) ?_ ?_ (fun L => by
        have e0 : S 0 = (B0, 0, 0, false) := by rw [hS]; rfl
        rw [e0] at L
        have L := L rfl
        simp only [] at L
        have e : rwB (I 178) a B0 = I1 178 := by rw [e178]; exact rwB_id hR.2.2.2
        rw [e, vu_id] at L; exact L)
      · intro _
        rw [U_252_3]
        have gs := gS N
        simp (disch := first | omega | assumption | exact rfl) only [U_252_15, XX, QQ, WW, KK, QX, SHs, RRs, Nat.reduceAdd, Nat.reduceMul, Nat.reduceLeDiff, Nat.reduceEqDiff, List.length_cons, List.length_nil, decide_true, decide_false, Bool.true_and, Bool.and_true, Bool.false_and, Bool.and_false, false_and, and_false, Bool.false_eq_true, Bool.true_eq_false, reduceCtorEq, eq_self, if_true, if_false, true_and, and_true, not_true_eq_false, not_false_eq_true, if_pos, if_neg, z_ite_not, false_or, or_false, true_or, or_true, SWs, swk_0, swk_1, gs, h370]
      · intro i hi ih hst
        rw [U_252_3]
        obtain ⟨p1, p2, p3⟩ := sp i (by omega)
        have gs := gS i
        have gb : rwB (I 178) a (S i).1 (668 + 24 * a + i) = (S i).1 i := rwB_in (by omega)
        have gk : ∀ b, b < 24 → rwB (I 178) a (S i).1 (40 + b) = nI (brk b) := fun b hb => by rw [rwB_out (by omega)]; exact (hm b hb).2.2.2.2.2
        have hR'' : RWl (va_up I1 178 (rwB (I 178) a (S i).1) 178) a (FW a) (S i).1 := by rw [vu_eq]; exact rwB_wl ha hR
        have e1 := spS_s (B0 := B0) (brk := brk) (N := N) (i := i)
        rw [← hS] at e1
        rw [if_neg (by rw [hst]; simp)] at e1
        rcases p1.1 i hi with z | ⟨b, hb, z⟩
        · rw [if_pos (.inl z)] at e1
          rw [e1] at ih
          rw [z] at gb
          simp (disch := first | omega | assumption | exact rfl) only [U_252_4, U_252_14, XX, QQ, WW, KK, QX, SHs, RRs, Nat.reduceAdd, Nat.reduceMul, Nat.reduceLeDiff, Nat.reduceEqDiff, List.length_cons, List.length_nil, decide_true, decide_false, Bool.true_and, Bool.and_true, Bool.false_and, Bool.and_false, false_and, and_false, Bool.false_eq_true, Bool.true_eq_false, reduceCtorEq, eq_self, if_true, if_false, true_and, and_true, not_true_eq_false, not_false_eq_true, if_pos, if_neg, z_ite_not, false_or, or_false, true_or, or_true, SWs, swk_0, swk_1, gs, h370, r_brick, gb]
          exact ih hst
        · have hb2 := (hm b hb).2.1
          rw [z, nI_clamp (by omega)] at e1
          rw [z] at gb
          have gkb := gk b hb
          by_cases y : brk b = 0
          · rw [if_pos (.inr y)] at e1
            rw [e1] at ih
            rw [y] at gkb
            simp (disch := first | omega | assumption | exact rfl) only [U_252_4, U_252_5, U_252_6, U_252_14, XX, QQ, WW, KK, QX, SHs, RRs, Nat.reduceAdd, Nat.reduceMul, Nat.reduceLeDiff, Nat.reduceEqDiff, List.length_cons, List.length_nil, decide_true, decide_false, Bool.true_and, Bool.and_true, Bool.false_and, Bool.and_false, false_and, and_false, Bool.false_eq_true, Bool.true_eq_false, reduceCtorEq, eq_self, if_true, if_false, true_and, and_true, not_true_eq_false, not_false_eq_true, if_pos, if_neg, z_ite_not, false_or, or_false, true_or, or_true, SWs, swk_0, swk_1, gs, h370, r_brick, gb, gkb]
            exact ih hst
          · rw [if_neg (by rintro (q | q); exact nI_ne (by omega) q; exact y q)] at e1
            have y1 : brk b = 1 := by omega
            rw [y1] at gkb
            obtain ⟨n1, n2, n3⟩ := nxF_spec (spP (S i).1 brk N) (24 - (S i).2.1) (S i).2.1
            obtain ⟨nx, hnx⟩ : ∃ nx, nx = nxF (spP (S i).1 brk N) (24 - (S i).2.1) (S i).2.1 := ⟨_, rfl⟩
            rw [← hnx] at e1 n1 n2 n3
            -- the search for a spare
            have loop : ∀ r, Ev X d 252 11 [.ref 177, .int (nI a), .int (nI (S i).2.2.1), .int (nI nx), .int (nI i)] [] (mk (va_up I1 178 (rwB (I 178) a (S i).1)) J) r → Ev X d 252 7 [.ref 177, .int (nI a), .int (nI (S i).2.2.1), .int (nI (S i).2.1), .int (nI i)] [] (mk (va_up I1 178 (rwB (I 178) a (S i).1)) J) r := by
              intro r hr
              refine lpd (n := 24) (P := fun t => (S i).2.1 ≤ t → nxF (spP (S i).1 brk N) (24 - t) t = nx → Ev X d 252 7 [.ref 177, .int (nI a), .int (nI (S i).2.2.1), .int (nI t), .int (nI i)] [] (mk (va_up I1 178 (rwB (I 178) a (S i).1)) J) r) ?_ ?_ (S i).2.1 p2 (Nat.le_refl _) hnx.symm
              · intro _ he
                rw [Nat.sub_self, nxF] at he
                subst he
                rw [U_252_7]
                simp (disch := omega) only [XX, QQ, Nat.reduceLeDiff, if_true]
                exact hr
              · intro t ht iht hst' he
                rw [show 24 - t = (24 - (t + 1)) + 1 by omega, nxF] at he
                have gkt := gk t ht
                have po := r_placeOf (X := X) (d := d) (J := J) (b := nI t) (by omega) ha hR''
                rw [← hN] at po
                have hbt := (hm t ht).2.1
                by_cases q1 : brk t = 1
                · have e : spP (S i).1 brk N t = true := by simp [spP, q1]
                  rw [if_pos e] at he
                  rw [q1] at gkt
                  rw [U_252_7]
                  simp (disch := first | omega | assumption | exact rfl) only [U_252_8, U_252_10, XX, QQ, WW, KK, QX, SHs, RRs, Nat.reduceAdd, Nat.reduceMul, Nat.reduceLeDiff, Nat.reduceEqDiff, List.length_cons, List.length_nil, decide_true, decide_false, Bool.true_and, Bool.and_true, Bool.false_and, Bool.and_false, false_and, and_false, Bool.false_eq_true, Bool.true_eq_false, reduceCtorEq, eq_self, if_true, if_false, true_and, and_true, not_true_eq_false, not_false_eq_true, if_pos, if_neg, z_ite_not, false_or, or_false, true_or, or_true, SWs, swk_0, swk_1, gkt]
                  exact iht (by omega) he
                · have q0 : brk t = 0 := by omega
                  rw [q0] at gkt
                  by_cases q2 : fstI (S i).1 (nI t) N 0 = -1
                  · have e : ¬ spP (S i).1 brk N t = true := by simp [spP, q1, q2]
                    rw [if_neg e] at he
                    subst he
                    rw [q2] at po
                    rw [U_252_7]
                    simp (disch := first | omega | assumption | exact rfl) only [U_252_8, U_252_9, XX, QQ, WW, KK, QX, SHs, RRs, Nat.reduceAdd, Nat.reduceMul, Nat.reduceLeDiff, Nat.reduceEqDiff, List.length_cons, List.length_nil, decide_true, decide_false, Bool.true_and, Bool.and_true, Bool.false_and, Bool.and_false, false_and, and_false, Bool.false_eq_true, Bool.true_eq_false, reduceCtorEq, eq_self, if_true, if_false, true_and, and_true, not_true_eq_false, not_false_eq_true, if_pos, if_neg, z_ite_not, false_or, or_false, true_or, or_true, SWs, swk_0, swk_1, gkt, po]
                    exact hr
                  · have e : spP (S i).1 brk N t = true := by simp [spP, q2]
                    rw [if_pos e] at he
                    rw [U_252_7]
                    simp (disch := first | omega | assumption | exact rfl) only [U_252_8, U_252_9, U_252_10, XX, QQ, WW, KK, QX, SHs, RRs, Nat.reduceAdd, Nat.reduceMul, Nat.reduceLeDiff, Nat.reduceEqDiff, List.length_cons, List.length_nil, decide_true, decide_false, Bool.true_and, Bool.and_true, Bool.false_and, Bool.and_false, false_and, and_false, Bool.false_eq_true, Bool.true_eq_false, reduceCtorEq, eq_self, if_true, if_false, true_and, and_true, not_true_eq_false, not_false_eq_true, if_pos, if_neg, z_ite_not, false_or, or_false, true_or, or_true, SWs, swk_0, swk_1, gkt, po, q2]
                    exact iht (by omega) he
            by_cases w : nx = 24
            · rw [if_pos w] at e1
              have st := spS_stop (B0 := B0) (brk := brk) (N := N) (i := i + 1) (by rw [← hS, e1]) (N - (i + 1))
              rw [← hS, show i + 1 + (N - (i + 1)) = N by omega, e1] at st
              rw [st]
              simp only []
              simp (disch := first | omega | assumption | exact rfl) only [U_252_4, U_252_5, XX, QQ, WW, KK, QX, SHs, RRs, Nat.reduceAdd, Nat.reduceMul, Nat.reduceLeDiff, Nat.reduceEqDiff, List.length_cons, List.length_nil, decide_true, decide_false, Bool.true_and, Bool.and_true, Bool.false_and, Bool.and_false, false_and, and_false, Bool.false_eq_true, Bool.true_eq_false, reduceCtorEq, eq_self, if_true, if_false, true_and, and_true, not_true_eq_false, not_false_eq_true, if_pos, if_neg, z_ite_not, false_or, or_false, true_or, or_true, SWs, swk_0, swk_1, gs, h370, r_brick, gb, gkb]
              apply loop
              simp (disch := first | omega | assumption | exact rfl) only [U_252_11, U_252_12, XX, QQ, WW, KK, QX, SHs, RRs, Nat.reduceAdd, Nat.reduceMul, Nat.reduceLeDiff, Nat.reduceEqDiff, List.length_cons, List.length_nil, decide_true, decide_false, Bool.true_and, Bool.and_true, Bool.false_and, Bool.and_false, false_and, and_false, Bool.false_eq_true, Bool.true_eq_false, reduceCtorEq, eq_self, if_true, if_false, true_and, and_true, not_true_eq_false, not_false_eq_true, if_pos, if_neg, z_ite_not, false_or, or_false, true_or, or_true, SWs, swk_0, swk_1]
            · rw [if_neg w] at e1
              rw [e1] at ih
              have ih := ih rfl
              simp only [] at ih
              have eu := rwB_up (f := I 178) (B := (S i).1) (a := a) (v := nI nx) (show i < 24 by omega)
              rw [← eu] at ih
              simp (disch := first | omega | assumption | exact rfl) only [U_252_4, U_252_5, XX, QQ, WW, KK, QX, SHs, RRs, Nat.reduceAdd, Nat.reduceMul, Nat.reduceLeDiff, Nat.reduceEqDiff, List.length_cons, List.length_nil, decide_true, decide_false, Bool.true_and, Bool.and_true, Bool.false_and, Bool.and_false, false_and, and_false, Bool.false_eq_true, Bool.true_eq_false, reduceCtorEq, eq_self, if_true, if_false, true_and, and_true, not_true_eq_false, not_false_eq_true, if_pos, if_neg, z_ite_not, false_or, or_false, true_or, or_true, SWs, swk_0, swk_1, gs, h370, r_brick, gb, gkb]
              apply loop
              simp (disch := first | omega | assumption | exact rfl) only [U_252_11, U_252_13, U_252_14, XX, QQ, WW, KK, QX, SHs, RRs, Nat.reduceAdd, Nat.reduceMul, Nat.reduceLeDiff, Nat.reduceEqDiff, List.length_cons, List.length_nil, decide_true, decide_false, Bool.true_and, Bool.and_true, Bool.false_and, Bool.and_false, false_and, and_false, Bool.false_eq_true, Bool.true_eq_false, reduceCtorEq, eq_self, if_true, if_false, true_and, and_true, not_true_eq_false, not_false_eq_true, if_pos, if_neg, z_ite_not, false_or, or_false, true_or, or_true, SWs, swk_0, swk_1]
              exact ih
    · obtain ⟨p1, p2, p3⟩ := sp N (Nat.le_refl N)
      rw [hB0] at hR
      refine Inv_setB ha h hG hR (by rw [← hN]; exact p1) (fun i hi => ?_) (fun i hi => ?_)
      · exact rwB_in hi
      · exact rwB_out (by omega)
  · refine Both_0 (-1) h ?_ ?_
    · refine callF_at (by omega) (by decide) (Nat.le_of_ble_eq_true rfl) (fun d _ => ?_)
      show Ev X d 142 0 [.ref 0, .int u, .retAddr 0, .retAddr 0, .retAddr 0, .retAddr 0] [] ( mk I J) _
      simp (disch := first | omega | assumption | exact rfl) only [U_142_0, U_142_1, XX, QQ, WW, KK, QX, SHs, RRs, Nat.reduceAdd, Nat.reduceMul, Nat.reduceLeDiff, Nat.reduceEqDiff, List.length_cons, List.length_nil, decide_true, decide_false, Bool.true_and, Bool.and_true, Bool.false_and, Bool.and_false, false_and, and_false, Bool.false_eq_true, Bool.true_eq_false, reduceCtorEq, eq_self, if_true, if_false, true_and, and_true, not_true_eq_false, not_false_eq_true, if_pos, if_neg, z_ite_not, false_or, or_false, true_or, or_true, SWs, swk_0, swk_1, s_isOf, o1]
    · refine callF_at (by omega) (by decide) (Nat.le_of_ble_eq_true rfl) (fun d _ => ?_)
      show Ev X d 252 0 [.ref 177, .int u, .retAddr 0, .retAddr 0, .retAddr 0] [] ( mk I J) _
      simp (disch := first | omega | assumption | exact rfl) only [U_252_0, U_252_1, XX, QQ, WW, KK, QX, SHs, RRs, Nat.reduceAdd, Nat.reduceMul, Nat.reduceLeDiff, Nat.reduceEqDiff, List.length_cons, List.length_nil, decide_true, decide_false, Bool.true_and, Bool.and_true, Bool.false_and, Bool.and_false, false_and, and_false, Bool.false_eq_true, Bool.true_eq_false, reduceCtorEq, eq_self, if_true, if_false, true_and, and_true, not_true_eq_false, not_false_eq_true, if_pos, if_neg, z_ite_not, false_or, or_false, true_or, or_true, SWs, swk_0, swk_1, r_isWall, o2]
