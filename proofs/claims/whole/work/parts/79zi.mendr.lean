/-! ===== mending: the reference ===== -/
theorem r_exchanges {X : Nat × (Nat → Int32)} {d : Nat} {I : Nat → Nat → Int32} {J : Nat → Nat → Int64} {i j : Nat} (hd : 1 ≤ d) (hi : i < 24) (hj : j < 24) : callF X d 222 [.ref 177, .int (nI i), .int (nI j)] (mk I J) = some (none, mk (va_up I 188 (swp (I 188) i j)) J) := by
  refine callF_at (by omega) (by decide) (Nat.le_of_ble_eq_true rfl) (fun d _ => ?_)
  show Ev X d 222 0 [.ref 177, .int (nI i), .int (nI j), .retAddr 0] [] ( mk I J) _
  simp (disch := first | omega | assumption | exact rfl) only [U_222_0, XX, QQ, WW, KK, QX, SHs, RRs, Nat.reduceAdd, Nat.reduceMul, Nat.reduceLeDiff, Nat.reduceEqDiff, List.length_cons, List.length_nil, decide_true, decide_false, Bool.true_and, Bool.and_true, Bool.false_and, Bool.and_false, false_and, and_false, Bool.false_eq_true, Bool.true_eq_false, reduceCtorEq, eq_self, if_true, if_false, true_and, and_true, not_true_eq_false, not_false_eq_true, if_pos, if_neg, z_ite_not, false_or, or_false, true_or, or_true, SWs, swk_0, swk_1]
  rfl
/-- what stays while the reference mends -/
def RM (Ib : Nat → Nat → Int32) (F1 : Nat) (B1 : Nat → Int32) (I : Nat → Nat → Int32) (B : Nat → Int32) : Prop := FR Ib I ∧ I 177 26 = nI (ins F1 B1) ∧ (∀ b, b < 24 → I 186 b = nI (nr F1 B1 b)) ∧ I 188 = B
theorem RM_188 {Ib : Nat → Nat → Int32} {F1 : Nat} {B1 : Nat → Int32} {I : Nat → Nat → Int32} {B f : Nat → Int32} (h : RM Ib F1 B1 I B) : RM Ib F1 B1 (va_up I 188 f) f := by
  obtain ⟨h1, h2, h3, h4⟩ := h
  exact ⟨FR_trans h1 (FR_of (fun a x y => vu_ne (by omega)) (fun k hk => by rw [vu_ne (by decide)])), by rw [vu_ne (by decide)]; exact h2, fun b hb => by rw [vu_ne (by decide)]; exact h3 b hb, vu_eq⟩
section
variable {X : Nat × (Nat → Int32)} {d : Nat} {J : Nat → Nat → Int64} {Ib : Nat → Nat → Int32} {s F1 F2 al : Nat} {B1 : Nat → Int32} {mks : Nat → Nat}
theorem r_reck {I : Nat → Nat → Int32} {B : Nat → Int32} (hd : 5 ≤ d) (hs : s < 6) (hR : RSh (Ib 178) s F2) (hal : Ib 178 1 = nI al) (hal2 : al < 2) (hm : ∀ k, k < 24 → Ib 178 (10 + k) = nI (mks k)) (hm4 : ∀ k, k < 24 → mks k < 4) (h : RM Ib F1 B1 I B) (hB : WB B (pop F2)) :
    ∃ I1, callF X d 223 [.ref 177, .int (nI s)] (mk I J) = some (none, mk I1 J) ∧ RM Ib F1 B1 I1 B ∧ I1 177 32 = nI (bdN F1 B1 F2 al mks B) ∧ I1 177 33 = nI (twN F1 B1 F2 B / 2) := by
  obtain ⟨h1, h2, h3, h4⟩ := h
  have e8 := h1.2.1
  obtain ⟨I1, t1, t2, t3, t4, t5⟩ := r_reckons (X := X) (d := d) (I := I) (J := J) (s := s) (FS := F2) (F1 := F1) (al := al) (B1 := B1) (mks := mks) hd hs (by rw [e8]; exact hR) (by rw [h4]; exact hB) h2 h3 (by rw [e8]; exact hal) hal2 (fun k hk => by rw [e8]; exact hm k hk) hm4
  rw [h4] at t2 t3
  refine ⟨I1, t1, ⟨FR_trans h1 (FR_of (fun a x y => t4 a y (by omega)) (fun k hk => t5 k (by omega) (by omega) (by omega))), ?_, fun b hb => ?_, ?_⟩, t2, t3⟩
  · rw [t5 26 (by decide) (by decide) (by decide)]; exact h2
  · rw [t4 186 (by decide) (by decide)]; exact h3 b hb
  · rw [t4 188 (by decide) (by decide)]; exact h4
theorem r_betters {I : Nat → Nat → Int32} {B : Nat → Int32} (hd : 6 ≤ d) (hs : s < 6) (hR : RSh (Ib 178) s F2) (hal : Ib 178 1 = nI al) (hal2 : al < 2) (hm : ∀ k, k < 24 → Ib 178 (10 + k) = nI (mks k)) (hm4 : ∀ k, k < 24 → mks k < 4) (h : RM Ib F1 B1 I B) (hB : WB B (pop F2)) :
    ∃ I', callF X d 224 [.ref 177, .int (nI s)] (mk I J) = some (some (.int (bI (decide (fp F1 B1 F2 al mks B < 576)))), mk I' J) ∧ RM Ib F1 B1 I' (if fp F1 B1 F2 al mks B < 576 then swp B (fp F1 B1 F2 al mks B / 24) (fp F1 B1 F2 al mks B % 24) else B) := by
  have h24 := hR.1
  have c0 : Ib 178 (70 + s) = nI (pop F2) := hR.2.1
  obtain ⟨d, rfl⟩ : ∃ d', d = d' + 1 := ⟨d - 1, by omega⟩
  obtain ⟨I0, s1, s2, s3, s4⟩ := r_reck (X := X) (d := d) (J := J) (F2 := F2) (by omega) hs hR hal hal2 hm hm4 h hB
  have c1 : I 178 (70 + s) = nI (pop F2) := by rw [h.1.2.1]; exact c0
  have bb := tw_bad (F1 := F1) (B1 := B1) (al := al) (mks := mks) hB h24
  obtain ⟨bd, ebd⟩ : ∃ x, x = bdN F1 B1 F2 al mks B := ⟨_, rfl⟩
  obtain ⟨kp, ekp⟩ : ∃ x, x = twN F1 B1 F2 B / 2 := ⟨_, rfl⟩
  have bd24 : bd ≤ 24 := by rw [ebd]; unfold bdN; omega
  have kp48 : kp ≤ 48 := by rw [ekp]; unfold twN; omega
  rw [← ebd] at s3
  rw [← ekp] at s4
  obtain ⟨w, ew⟩ : ∃ w : Bool, w = decide (fp F1 B1 F2 al mks B < 576) := ⟨_, rfl⟩
  obtain ⟨Bn, eBn⟩ : ∃ Bn, Bn = (if fp F1 B1 F2 al mks B < 576 then swp B (fp F1 B1 F2 al mks B / 24) (fp F1 B1 F2 al mks B % 24) else B) := ⟨_, rfl⟩
  rw [← ew, ← eBn]
  have lp : ∀ u6 : Value, ∃ I', Ev X d 224 1 [.ref 177, .int (nI s), .int (nI (pop F2)), .int (nI bd), .int (nI kp), .int (nI 0), u6] [] (mk I0 J) (some (.int (bI w)), mk I' J) ∧ RM Ib F1 B1 I' Bn := by
    refine lpI (n := pop F2) (P := fun i => (∀ k, k < 24 * i → tstE F1 B1 F2 al mks B k = false) → ∀ I1, RM Ib F1 B1 I1 B → ∀ u6 : Value, ∃ I', Ev X d 224 1 [.ref 177, .int (nI s), .int (nI (pop F2)), .int (nI bd), .int (nI kp), .int (nI i), u6] [] (mk I1 J) (some (.int (bI w)), mk I' J) ∧ RM Ib F1 B1 I' Bn) ?_ ?_ (fun Q u6 => Q (fun k hk => by omega) I0 s2 u6)
    · intro no I1 r1 u6
      have nf := fp_no h24 no
      refine ⟨I1, ?_, by rw [eBn, if_neg nf]; exact r1⟩
      rw [ew, decide_eq_false nf, U_224_1]
      simp (disch := first | omega | assumption | exact rfl) only [U_224_10, XX, QQ, WW, KK, QX, SHs, RRs, Nat.reduceAdd, Nat.reduceMul, Nat.reduceLeDiff, Nat.reduceEqDiff, List.length_cons, List.length_nil, decide_true, decide_false, Bool.true_and, Bool.and_true, Bool.false_and, Bool.and_false, false_and, and_false, Bool.false_eq_true, Bool.true_eq_false, reduceCtorEq, eq_self, if_true, if_false, true_and, and_true, not_true_eq_false, not_false_eq_true, if_pos, if_neg, z_ite_not, false_or, or_false, true_or, or_true, SWs, swk_0, swk_1]
    · intro i hi ih no I1 r1 u6
      have i24 : i < 24 := by omega
      have inner : ∀ j, j ≤ pop F2 → i < j → (∀ k, k < 24 * i + j → tstE F1 B1 F2 al mks B k = false) → ∀ I1, RM Ib F1 B1 I1 B → ∃ I', Ev X d 224 3 [.ref 177, .int (nI s), .int (nI (pop F2)), .int (nI bd), .int (nI kp), .int (nI i), .int (nI j)] [] (mk I1 J) (some (.int (bI w)), mk I' J) ∧ RM Ib F1 B1 I' Bn := by
        refine lpd (n := pop F2) (P := fun j => i < j → (∀ k, k < 24 * i + j → tstE F1 B1 F2 al mks B k = false) → ∀ I1, RM Ib F1 B1 I1 B → ∃ I', Ev X d 224 3 [.ref 177, .int (nI s), .int (nI (pop F2)), .int (nI bd), .int (nI kp), .int (nI i), .int (nI j)] [] (mk I1 J) (some (.int (bI w)), mk I' J) ∧ RM Ib F1 B1 I' Bn) ?_ ?_
        · intro _ no' I1 r1
          obtain ⟨I', t1, t2⟩ := ih (fun k hk => by
            rcases Nat.lt_or_ge k (24 * i + pop F2) with q | q
            · exact no' k q
            · rw [← Bool.not_eq_true]
              intro z
              have e : k = 24 * i + (k - 24 * i) := by omega
              rw [e, tst_iff (by omega)] at z
              omega) I1 r1 (.int (nI (pop F2)))
          refine ⟨I', ?_, t2⟩
          rw [U_224_3]
          simp (disch := first | omega | assumption | exact rfl) only [U_224_9, XX, QQ, WW, KK, QX, SHs, RRs, Nat.reduceAdd, Nat.reduceMul, Nat.reduceLeDiff, Nat.reduceEqDiff, List.length_cons, List.length_nil, decide_true, decide_false, Bool.true_and, Bool.and_true, Bool.false_and, Bool.and_false, false_and, and_false, Bool.false_eq_true, Bool.true_eq_false, reduceCtorEq, eq_self, if_true, if_false, true_and, and_true, not_true_eq_false, not_false_eq_true, if_pos, if_neg, z_ite_not, false_or, or_false, true_or, or_true, SWs, swk_0, swk_1]
          exact t1
        · intro j hj IH hij no' I1 r1
          have j24 : j < 24 := by omega
          have x1 := r_exchanges (X := X) (d := d) (I := I1) (J := J) (i := i) (j := j) (by omega) i24 j24
          rw [r1.2.2.2] at x1
          have wb := swp_WB hB (i := i) (j := j) (by omega) hj (by omega)
          obtain ⟨I2, y1, y2, y3, y4⟩ := r_reck (X := X) (d := d) (J := J) (F2 := F2) (by omega) hs hR hal hal2 hm hm4 (RM_188 (f := swp B i j) r1) wb
          have bb' := tw_bad (F1 := F1) (B1 := B1) (al := al) (mks := mks) wb h24
          have bt : btr F1 B1 F2 al mks B (swp B i j) ↔ (bdN F1 B1 F2 al mks (swp B i j) < bd ∨ (bdN F1 B1 F2 al mks (swp B i j) = bd ∧ kp < twN F1 B1 F2 (swp B i j) / 2)) := by rw [ebd, ekp]; rfl
          obtain ⟨bd', ebd'⟩ : ∃ x, x = bdN F1 B1 F2 al mks (swp B i j) := ⟨_, rfl⟩
          obtain ⟨kp', ekp'⟩ : ∃ x, x = twN F1 B1 F2 (swp B i j) / 2 := ⟨_, rfl⟩
          have bd24' : bd' ≤ 24 := by rw [ebd']; unfold bdN; omega
          have kp48' : kp' ≤ 48 := by rw [ekp']; unfold twN; omega
          rw [← ebd'] at y3 bt
          rw [← ekp'] at y4 bt
          by_cases z : btr F1 B1 F2 al mks B (swp B i j)
          · have e : fp F1 B1 F2 al mks B = 24 * i + j := fp_is (by omega) ((tst_iff j24).mpr ⟨hij, hj, z⟩) no'
            refine ⟨I2, ?_, by rw [eBn, e, if_pos (by omega), show (24 * i + j) / 24 = i by omega, show (24 * i + j) % 24 = j by omega]; exact y2⟩
            rw [ew, e, decide_eq_true (by omega), U_224_3]
            rcases bt.mp z with q | ⟨q1, q2⟩
            · simp (disch := first | omega | assumption | exact rfl) only [U_224_4, U_224_7, XX, QQ, WW, KK, QX, SHs, RRs, Nat.reduceAdd, Nat.reduceMul, Nat.reduceLeDiff, Nat.reduceEqDiff, List.length_cons, List.length_nil, decide_true, decide_false, Bool.true_and, Bool.and_true, Bool.false_and, Bool.and_false, false_and, and_false, Bool.false_eq_true, Bool.true_eq_false, reduceCtorEq, eq_self, if_true, if_false, true_and, and_true, not_true_eq_false, not_false_eq_true, if_pos, if_neg, z_ite_not, false_or, or_false, true_or, or_true, SWs, swk_0, swk_1, x1, y1, y3]
            · rw [q1] at y3
              simp (disch := first | omega | assumption | exact rfl) only [U_224_4, U_224_5, U_224_6, U_224_7, XX, QQ, WW, KK, QX, SHs, RRs, Nat.reduceAdd, Nat.reduceMul, Nat.reduceLeDiff, Nat.reduceEqDiff, List.length_cons, List.length_nil, decide_true, decide_false, Bool.true_and, Bool.and_true, Bool.false_and, Bool.and_false, false_and, and_false, Bool.false_eq_true, Bool.true_eq_false, reduceCtorEq, eq_self, if_true, if_false, true_and, and_true, not_true_eq_false, not_false_eq_true, if_pos, if_neg, z_ite_not, false_or, or_false, true_or, or_true, SWs, swk_0, swk_1, x1, y1, y3, y4]
          · have x2 := r_exchanges (X := X) (d := d) (I := I2) (J := J) (i := i) (j := j) (by omega) i24 j24
            rw [y2.2.2.2, swp_swp (by omega)] at x2
            obtain ⟨I', t1, t2⟩ := IH (by omega) (fun k hk => by
              by_cases q : k = 24 * i + j
              · subst q
                rw [← Bool.not_eq_true, tst_iff j24]
                exact fun t => z t.2.2
              · exact no' k (by omega)) (va_up I2 188 B) (RM_188 y2)
            refine ⟨I', ?_, t2⟩
            have nz := fun q => z (bt.mpr q)
            have n1 : ¬ bd' < bd := fun q => nz (.inl q)
            rw [U_224_3]
            by_cases q : bd' = bd
            · have n2 : kp' ≤ kp := by
                rcases Nat.lt_or_ge kp kp' with t | t
                · exact absurd (.inr ⟨q, t⟩) nz
                · exact t
              subst q
              simp (disch := first | omega | assumption | exact rfl) only [U_224_4, U_224_5, U_224_6, U_224_8, XX, QQ, WW, KK, QX, SHs, RRs, Nat.reduceAdd, Nat.reduceMul, Nat.reduceLeDiff, Nat.reduceEqDiff, List.length_cons, List.length_nil, decide_true, decide_false, Bool.true_and, Bool.and_true, Bool.false_and, Bool.and_false, false_and, and_false, Bool.false_eq_true, Bool.true_eq_false, reduceCtorEq, eq_self, if_true, if_false, true_and, and_true, not_true_eq_false, not_false_eq_true, if_pos, if_neg, z_ite_not, false_or, or_false, true_or, or_true, SWs, swk_0, swk_1, x1, y1, y3, y4, x2]
              exact t1
            · simp (disch := first | omega | assumption | exact rfl) only [U_224_4, U_224_5, U_224_8, XX, QQ, WW, KK, QX, SHs, RRs, Nat.reduceAdd, Nat.reduceMul, Nat.reduceLeDiff, Nat.reduceEqDiff, List.length_cons, List.length_nil, decide_true, decide_false, Bool.true_and, Bool.and_true, Bool.false_and, Bool.and_false, false_and, and_false, Bool.false_eq_true, Bool.true_eq_false, reduceCtorEq, eq_self, if_true, if_false, true_and, and_true, not_true_eq_false, not_false_eq_true, if_pos, if_neg, z_ite_not, false_or, or_false, true_or, or_true, SWs, swk_0, swk_1, x1, y1, y3, y4, x2, q]
              exact t1
      obtain ⟨I', t1, t2⟩ := inner (i + 1) (by omega) (by omega) (fun k hk => by
        rcases Nat.lt_or_ge k (24 * i) with q | q
        · exact no k q
        · rw [← Bool.not_eq_true]
          intro z
          have e : k = 24 * i + (k - 24 * i) := by omega
          rw [e, tst_iff (by omega)] at z
          omega) I1 r1
      refine ⟨I', ?_, t2⟩
      rw [U_224_1]
      simp (disch := first | omega | assumption | exact rfl) only [U_224_2, XX, QQ, WW, KK, QX, SHs, RRs, Nat.reduceAdd, Nat.reduceMul, Nat.reduceLeDiff, Nat.reduceEqDiff, List.length_cons, List.length_nil, decide_true, decide_false, Bool.true_and, Bool.and_true, Bool.false_and, Bool.and_false, false_and, and_false, Bool.false_eq_true, Bool.true_eq_false, reduceCtorEq, eq_self, if_true, if_false, true_and, and_true, not_true_eq_false, not_false_eq_true, if_pos, if_neg, z_ite_not, false_or, or_false, true_or, or_true, SWs, swk_0, swk_1]
      exact t1
  obtain ⟨I', t1, t2⟩ := lp (.retAddr 0)
  refine ⟨I', ?_, t2⟩
  refine callF_at (by omega) (by decide) (Nat.le_of_ble_eq_true rfl) (fun d' hd' => ?_)
  obtain rfl : d = d' := by omega
  show Ev X d 224 0 [.ref 177, .int (nI s), .retAddr 0, .retAddr 0, .retAddr 0, .retAddr 0, .retAddr 0] [] (mk I J) _
  simp (disch := first | omega | assumption | exact rfl) only [U_224_0, XX, QQ, WW, KK, QX, SHs, RRs, Nat.reduceAdd, Nat.reduceMul, Nat.reduceLeDiff, Nat.reduceEqDiff, List.length_cons, List.length_nil, decide_true, decide_false, Bool.true_and, Bool.and_true, Bool.false_and, Bool.and_false, false_and, and_false, Bool.false_eq_true, Bool.true_eq_false, reduceCtorEq, eq_self, if_true, if_false, true_and, and_true, not_true_eq_false, not_false_eq_true, if_pos, if_neg, z_ite_not, false_or, or_false, true_or, or_true, SWs, swk_0, swk_1, c1, s1, s3, s4]
  exact t1
end
