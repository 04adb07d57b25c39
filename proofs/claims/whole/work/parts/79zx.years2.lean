/-! ===== years: both ===== -/
section
variable (F1 al be : Nat) (mks : Nat → Nat) (sg : Nat → List (Nat × Nat)) (L : Nat) (wy : Nat → Nat × Nat)
noncomputable def itY (s : YrS) : Nat → YrS
  | 0 => s
  | m + 1 => nxY F1 al be mks sg L wy (itY s m)
noncomputable def gsY (s : YrS) (m : Nat) : Nat := fb_ct (fun i => gdY F1 al be mks sg L wy (itY F1 al be mks sg L wy s i)) m
end
theorem R6 {k : Nat} (hk : k < 3) : RR 6 k = some (38 + 8 * k) := (by decide +kernel : ∀ k, k < 3 → RR 6 k = some (38 + 8 * k)) k hk
theorem CFy_t {k : Nat} {I I' I'' : Nat → Nat → Int32} {J J' J'' : Nat → Nat → Int64} (h : CFy k I I' J J') (h2 : CFy k I' I'' J' J'') : CFy k I I'' J J'' := by
  obtain ⟨a1, a2, a3, a4⟩ := h
  obtain ⟨b1, b2, b3, b4⟩ := h2
  exact ⟨fun a x1 x2 x3 x4 x5 x6 => (b1 a x1 x2 x3 x4 x5 x6).trans (a1 a x1 x2 x3 x4 x5 x6), fun i x1 x2 x3 => (b2 i x1 x2 x3).trans (a2 i x1 x2 x3), fun j hj => (b3 j hj).trans (a3 j hj), fun a x1 x2 => (b4 a x1 x2).trans (a4 a x1 x2)⟩
theorem RFy_t {I I' I'' : Nat → Nat → Int32} (h : RFy I I') (h2 : RFy I' I'') : RFy I I'' := by
  obtain ⟨a1, a2, a3⟩ := h
  obtain ⟨b1, b2, b3⟩ := h2
  exact ⟨fun a x => (b1 a x).trans (a1 a x), fun k x => (b2 k x).trans (a2 k x), fun i x1 x2 x3 x4 x5 => (b3 i x1 x2 x3 x4 x5).trans (a3 i x1 x2 x3 x4 x5)⟩
theorem CFy_r {k : Nat} {I : Nat → Nat → Int32} {J : Nat → Nat → Int64} : CFy k I I J J := ⟨fun _ _ _ _ _ _ _ => rfl, fun _ _ _ _ => rfl, fun _ _ => rfl, fun _ _ _ => rfl⟩
theorem RFy_r {I : Nat → Nat → Int32} : RFy I I := ⟨fun _ _ => rfl, fun _ _ => rfl, fun _ _ _ _ _ _ => rfl⟩
theorem itY_s {F1 al be L n m : Nat} {mks : Nat → Nat} {sg : Nat → List (Nat × Nat)} {wy : Nat → Nat × Nat} {s : YrS} (hO : YOk s) (h24 : pop F1 ≤ 24) (h0 : 0 < pop F1) : YOk (itY F1 al be mks sg L wy s m) ∧ (itY F1 al be mks sg L wy s m).2.2.2.2.1 = s.2.2.2.2.1 + m := by
  induction m with
  | zero => exact ⟨hO, rfl⟩
  | succ m ih => exact ⟨(nxY_ok ih.1 h24 h0).1, by show (itY F1 al be mks sg L wy s m).2.2.2.2.1 + 1 = _; rw [ih.2]; omega⟩
theorem c_yearsLoop {X : Nat × (Nat → Int32)} {d : Nat} {I : Nat → Nat → Int32} {J : Nat → Nat → Int64} {k F1 al be L n : Nat} {mks : Nat → Nat} {sg : Nat → List (Nat × Nat)} {wy : Nat → Nat × Nat} {s : YrS} {v2 : Int32} (hd : 9 ≤ d) (hk : k < 3) (hC : CWY I J s) (hO : YOk s) (hn : n ≤ 30) (hyr : s.2.2.2.2.1 + n ≤ 999) (hF1 : F1 < 2 ^ 64) (h24' : pop F1 ≤ 24) (h0 : 0 < pop F1) (hal : I 1 1 = nI al) (hal2 : al < 2) (hbe : I 1 2 = nI be) (hbe2 : be ≤ 24) (hm : ∀ k, k < 24 → I 2 k = nI (mks k)) (hm4 : ∀ k, k < 24 → mks k < 4) (hL : LnY I k L sg wy) :
    ∃ I' J', Ev X d 132 10 [.ref 0, .int (nI k), .int v2, .int (nI n), .long (lN F1), .retAddr 0, .int (nI 0), .int (nI 0)] [] (mk I J) (some (.int (nI (gsY F1 al be mks sg L wy s n))), mk I' J') ∧ CWY I' J' (itY F1 al be mks sg L wy s n) ∧ CFy k I I' J J' := by
  refine lpI (n := n) (P := fun m => ∀ I1 J1, CWY I1 J1 (itY F1 al be mks sg L wy s m) → CFy k I I1 J J1 → ∃ I' J', Ev X d 132 10 [.ref 0, .int (nI k), .int v2, .int (nI n), .long (lN F1), .retAddr 0, .int (nI (gsY F1 al be mks sg L wy s m)), .int (nI m)] [] (mk I1 J1) (some (.int (nI (gsY F1 al be mks sg L wy s n))), mk I' J') ∧ CWY I' J' (itY F1 al be mks sg L wy s n) ∧ CFy k I I' J J') ?_ ?_ (fun Q => Q I J hC CFy_r)
  · intro I1 J1 q1 q2
    refine ⟨I1, J1, ?_, q1, q2⟩
    rw [U_132_10]
    simp (disch := first | omega | assumption | exact rfl) only [U_132_12, XX, QQ, WW, KK, QX, SHs, RRs, Nat.reduceAdd, Nat.reduceMul, Nat.reduceLeDiff, Nat.reduceEqDiff, List.length_cons, List.length_nil, decide_true, decide_false, Bool.true_and, Bool.and_true, Bool.false_and, Bool.and_false, false_and, and_false, Bool.false_eq_true, Bool.true_eq_false, reduceCtorEq, eq_self, if_true, if_false, true_and, and_true, not_true_eq_false, not_false_eq_true, if_pos, if_neg, z_ite_not, false_or, or_false, true_or, or_true, SWs, swk_0, swk_1]
  · intro m hm' ih I1 J1 q1 q2
    obtain ⟨ok, ey⟩ := itY_s (be := be) (al := al) (L := L) (mks := mks) (sg := sg) (wy := wy) (n := n) (m := m) hO h24' h0
    obtain ⟨f1, f2, f3, f4⟩ := id q2
    have hL1 : LnY I1 k L sg wy := LnY_fr (f3 0 (by decide)) (fun j h1 h2 => f1 _ (by omega) (by omega) (by omega) (by omega) (by omega) (by omega)) (fun i hi => by rw [f1 178 (by decide) (by omega) (by omega) (by omega) (by decide) (by decide)]) hL
    obtain ⟨I2, J2, y1, y2, y3⟩ := c_year (X := X) (d := d) (I := I1) (J := J1) (k := k) (F1 := F1) (al := al) (be := be) (L := L) (mks := mks) (sg := sg) (wy := wy) (s := itY F1 al be mks sg L wy s m) (by omega) hk q1 ok (by rw [ey]; omega) hF1 h24' h0 (by rw [f2 1 (by decide) (by decide) (by decide)]; exact hal) hal2 (by rw [f2 2 (by decide) (by decide) (by decide)]; exact hbe) hbe2 (fun j hj => by rw [f1 2 (by decide) (by omega) (by omega) (by omega) (by decide) (by decide)]; exact hm j hj) hm4 hL1
    obtain ⟨I', J', t1, t2, t3⟩ := ih I2 J2 y2 (CFy_t q2 y3)
    refine ⟨I', J', ?_, t2, t3⟩
    have gs : gsY F1 al be mks sg L wy s (m + 1) = gsY F1 al be mks sg L wy s m + (if gdY F1 al be mks sg L wy (itY F1 al be mks sg L wy s m) = true then 1 else 0) := rfl
    have gl : gsY F1 al be mks sg L wy s m ≤ m := fb_ct_le _ _
    rw [gs] at t1
    rw [U_132_10]
    cases g : gdY F1 al be mks sg L wy (itY F1 al be mks sg L wy s m) with
    | true =>
      rw [g, if_pos rfl] at t1
      rw [g] at y1
      have y1 : callF X d 133 [.ref 0, .ref (38 + 8 * k), .long (lN F1)] (mk I1 J1) = some (some (.int (nI 1)), mk I2 J2) := y1
      simp (disch := first | omega | assumption | exact rfl) only [U_132_11, XX, QQ, WW, KK, QX, SHs, RRs, Nat.reduceAdd, Nat.reduceMul, Nat.reduceLeDiff, Nat.reduceEqDiff, List.length_cons, List.length_nil, decide_true, decide_false, Bool.true_and, Bool.and_true, Bool.false_and, Bool.and_false, false_and, and_false, Bool.false_eq_true, Bool.true_eq_false, reduceCtorEq, eq_self, if_true, if_false, true_and, and_true, not_true_eq_false, not_false_eq_true, if_pos, if_neg, z_ite_not, false_or, or_false, true_or, or_true, SWs, swk_0, swk_1, R6, y1]
      exact t1
    | false =>
      rw [g, if_neg (by decide)] at t1
      rw [g] at y1
      have y1 : callF X d 133 [.ref 0, .ref (38 + 8 * k), .long (lN F1)] (mk I1 J1) = some (some (.int (nI 0)), mk I2 J2) := y1
      simp (disch := first | omega | assumption | exact rfl) only [U_132_11, XX, QQ, WW, KK, QX, SHs, RRs, Nat.reduceAdd, Nat.reduceMul, Nat.reduceLeDiff, Nat.reduceEqDiff, List.length_cons, List.length_nil, decide_true, decide_false, Bool.true_and, Bool.and_true, Bool.false_and, Bool.and_false, false_and, and_false, Bool.false_eq_true, Bool.true_eq_false, reduceCtorEq, eq_self, if_true, if_false, true_and, and_true, not_true_eq_false, not_false_eq_true, if_pos, if_neg, z_ite_not, false_or, or_false, true_or, or_true, SWs, swk_0, swk_1, R6, y1]
      exact t1
theorem r_yearsLoop {X : Nat × (Nat → Int32)} {d : Nat} {I : Nat → Nat → Int32} {J : Nat → Nat → Int64} {k s F1 al be L n : Nat} {mks : Nat → Nat} {sg : Nat → List (Nat × Nat)} {wy : Nat → Nat × Nat} {st : YrS} (hd : 10 ≤ d) (hk : k < 3) (hs : s < 6) (hC : RWY I st) (hO : YOk st) (hn : n ≤ 30) (hyr : st.2.2.2.2.1 + n ≤ 999) (hS : RSh (I 178) s F1) (h0 : 0 < pop F1) (hal : I 178 1 = nI al) (hal2 : al < 2) (hbe : I 178 2 = nI be) (hbe2 : be ≤ 24) (hm : ∀ k, k < 24 → I 178 (10 + k) = nI (mks k)) (hm4 : ∀ k, k < 24 → mks k < 4) (hL : LnY I k L sg wy) :
    ∃ I', Ev X d 232 8 [.ref 177, .int (nI k), .int (nI s), .int (nI n), .int (nI 0), .int (nI 0)] [] (mk I J) (some (.int (nI (gsY F1 al be mks sg L wy st n))), mk I' J) ∧ RWY I' (itY F1 al be mks sg L wy st n) ∧ RFy I I' := by
  have h24' := hS.1
  refine lpI (n := n) (P := fun m => ∀ I1, RWY I1 (itY F1 al be mks sg L wy st m) → RFy I I1 → ∃ I', Ev X d 232 8 [.ref 177, .int (nI k), .int (nI s), .int (nI n), .int (nI (gsY F1 al be mks sg L wy st m)), .int (nI m)] [] (mk I1 J) (some (.int (nI (gsY F1 al be mks sg L wy st n))), mk I' J) ∧ RWY I' (itY F1 al be mks sg L wy st n) ∧ RFy I I') ?_ ?_ (fun Q => Q I hC RFy_r)
  · intro I1 q1 q2
    refine ⟨I1, ?_, q1, q2⟩
    rw [U_232_8]
    simp (disch := first | omega | assumption | exact rfl) only [U_232_13, XX, QQ, WW, KK, QX, SHs, RRs, Nat.reduceAdd, Nat.reduceMul, Nat.reduceLeDiff, Nat.reduceEqDiff, List.length_cons, List.length_nil, decide_true, decide_false, Bool.true_and, Bool.and_true, Bool.false_and, Bool.and_false, false_and, and_false, Bool.false_eq_true, Bool.true_eq_false, reduceCtorEq, eq_self, if_true, if_false, true_and, and_true, not_true_eq_false, not_false_eq_true, if_pos, if_neg, z_ite_not, false_or, or_false, true_or, or_true, SWs, swk_0, swk_1]
  · intro m hm' ih I1 q1 q2
    obtain ⟨ok, ey⟩ := itY_s (be := be) (al := al) (L := L) (mks := mks) (sg := sg) (wy := wy) (n := n) (m := m) hO h24' h0
    obtain ⟨f1, f2, f3⟩ := id q2
    have f3' : ∀ i, i ≠ 0 → i ≠ 3 → i ≠ 4 → i < 370 → I1 178 i = I 178 i := fun i h1 h2 h3 h4 => f3 i h1 h2 h3 (by unfold inA; omega) (by omega)
    have hL1 : LnY I1 k L sg wy := LnY_fr (by rw [f1 _ (by omega)]) (fun j h1 h2 => f1 _ (by omega)) (fun i hi => f3 i (by omega) (by omega) (by omega) (by unfold inA; omega) (by omega)) hL
    have hS1 : RSh (I1 178) s F1 := by
      obtain ⟨t1, t2, t3⟩ := hS
      exact ⟨t1, by rw [f3' _ (by omega) (by omega) (by omega) (by omega)]; exact t2, fun i hi => by rw [f3' _ (by omega) (by omega) (by omega) (by omega), f3' _ (by omega) (by omega) (by omega) (by omega)]; exact t3 i hi⟩
    obtain ⟨I2, y1, y2, y3⟩ := r_year (X := X) (d := d) (I := I1) (J := J) (k := k) (s := s) (F1 := F1) (al := al) (be := be) (L := L) (mks := mks) (sg := sg) (wy := wy) (st := itY F1 al be mks sg L wy st m) (by omega) hk hs q1 ok (by rw [ey]; omega) hS1 h0 (by rw [f3' 1 (by decide) (by decide) (by decide) (by decide)]; exact hal) hal2 (by rw [f3' 2 (by decide) (by decide) (by decide) (by decide)]; exact hbe) hbe2 (fun j hj => by rw [f3' _ (by omega) (by omega) (by omega) (by omega)]; exact hm j hj) hm4 hL1
    obtain ⟨I', t1, t2, t3⟩ := ih I2 y2 (RFy_t q2 y3)
    refine ⟨I', ?_, t2, t3⟩
    have gs : gsY F1 al be mks sg L wy st (m + 1) = gsY F1 al be mks sg L wy st m + (if gdY F1 al be mks sg L wy (itY F1 al be mks sg L wy st m) = true then 1 else 0) := rfl
    have gl : gsY F1 al be mks sg L wy st m ≤ m := fb_ct_le _ _
    rw [gs] at t1
    rw [U_232_8]
    cases g : gdY F1 al be mks sg L wy (itY F1 al be mks sg L wy st m) with
    | true =>
      rw [g, if_pos rfl] at t1
      rw [g] at y1
      have y1 : callF X d 231 [.ref 177, .int (nI k), .int (nI s)] (mk I1 J) = some (some (.int (nI 1)), mk I2 J) := y1
      simp (disch := first | omega | assumption | exact rfl) only [U_232_9, U_232_10, U_232_12, XX, QQ, WW, KK, QX, SHs, RRs, Nat.reduceAdd, Nat.reduceMul, Nat.reduceLeDiff, Nat.reduceEqDiff, List.length_cons, List.length_nil, decide_true, decide_false, Bool.true_and, Bool.and_true, Bool.false_and, Bool.and_false, false_and, and_false, Bool.false_eq_true, Bool.true_eq_false, reduceCtorEq, eq_self, if_true, if_false, true_and, and_true, not_true_eq_false, not_false_eq_true, if_pos, if_neg, z_ite_not, false_or, or_false, true_or, or_true, SWs, swk_0, swk_1, y1]
      exact t1
    | false =>
      rw [g, if_neg (by decide)] at t1
      rw [g] at y1
      have y1 : callF X d 231 [.ref 177, .int (nI k), .int (nI s)] (mk I1 J) = some (some (.int (nI 0)), mk I2 J) := y1
      simp (disch := first | omega | assumption | exact rfl) only [U_232_9, U_232_11, U_232_12, XX, QQ, WW, KK, QX, SHs, RRs, Nat.reduceAdd, Nat.reduceMul, Nat.reduceLeDiff, Nat.reduceEqDiff, List.length_cons, List.length_nil, decide_true, decide_false, Bool.true_and, Bool.and_true, Bool.false_and, Bool.and_false, false_and, and_false, Bool.false_eq_true, Bool.true_eq_false, reduceCtorEq, eq_self, if_true, if_false, true_and, and_true, not_true_eq_false, not_false_eq_true, if_pos, if_neg, z_ite_not, false_or, or_false, true_or, or_true, SWs, swk_0, swk_1, y1]
      exact t1
