/-! ===== order: the reference; alike ===== -/
theorem r_restsOn {X : Nat × (Nat → Int32)} {d : Nat} {I : Nat → Nat → Int32} {J : Nat → Nat → Int64} {a F i : Nat} {B : Nat → Int32} (hd : 1 ≤ d) (ha : a < 6) (hR : RWl (I 178) a F B) (hi : i < pop F) : callF X d 247 [.ref 177, .int (nI a), .int (nI i)] (mk I J) = some (some (.int (tch F i 3)), mk I J) := by
  obtain ⟨h24, h1, h2, h3⟩ := hR
  obtain ⟨p1, p2, p3⟩ := pl_spec hi
  have e1 := (h2 i hi).1; have e2 := (h2 i hi).2
  refine callF_at (by omega) (by decide) (Nat.le_of_ble_eq_true rfl) (fun d _ => ?_)
  show Ev X d 247 0 [.ref 177, .int (nI a), .int (nI i), .retAddr 0] [] ( mk I J) _
  simp (disch := first | omega | assumption | exact rfl) only [U_247_0, XX, QQ, WW, KK, QX, SHs, RRs, Nat.reduceAdd, Nat.reduceMul, Nat.reduceLeDiff, Nat.reduceEqDiff, List.length_cons, List.length_nil, decide_true, decide_false, Bool.true_and, Bool.and_true, Bool.false_and, Bool.and_false, false_and, and_false, Bool.false_eq_true, Bool.true_eq_false, reduceCtorEq, eq_self, if_true, if_false, true_and, and_true, not_true_eq_false, not_false_eq_true, if_pos, if_neg, z_ite_not, false_or, or_false, true_or, or_true, SWs, swk_0, swk_1]
  refine lp0 (n := pop F) (P := fun j => (∀ j', j' < j → pl F j' + 8 ≠ pl F i) → Ev X d 247 1 [.ref 177, .int (nI a), .int (nI i), .int (nI j)] [] (mk I J) (some (.int (tch F i 3)), mk I J)) ?_ ?_ (fun j' h => by omega)
  · intro hn
    have e : tch F i 3 = -1 := tch_no (fun j hj e => by
      simp only [nbp] at e
      split at e
      · have := Option.some.inj e; exact hn j hj (by omega)
      · cases e) hi
    rw [e, U_247_1]
    simp (disch := first | omega | assumption | exact rfl) only [U_247_6, XX, QQ, WW, KK, QX, SHs, RRs, Nat.reduceAdd, Nat.reduceMul, Nat.reduceLeDiff, Nat.reduceEqDiff, List.length_cons, List.length_nil, decide_true, decide_false, Bool.true_and, Bool.and_true, Bool.false_and, Bool.and_false, false_and, and_false, Bool.false_eq_true, Bool.true_eq_false, reduceCtorEq, eq_self, if_true, if_false, true_and, and_true, not_true_eq_false, not_false_eq_true, if_pos, if_neg, z_ite_not, false_or, or_false, true_or, or_true, SWs, swk_0, swk_1, h1]
  · intro j hj ih hn
    rw [U_247_1]
    have e3 := (h2 j hj).1; have e4 := (h2 j hj).2
    obtain ⟨p4, p5, p6⟩ := pl_spec hj
    by_cases z : pl F j + 8 = pl F i
    · have z1 : pl F j % 8 = pl F i % 8 := by omega
      have z2 : pl F j / 8 = pl F i / 8 - 1 := by omega
      have e : tch F i 3 = nI j := tch_of hj (by simp only [nbp]; rw [if_pos (by omega)]; exact congrArg some (by omega))
      rw [e]
      simp (disch := first | omega | assumption | exact rfl) only [U_247_2, U_247_3, U_247_4, XX, QQ, WW, KK, QX, SHs, RRs, Nat.reduceAdd, Nat.reduceMul, Nat.reduceLeDiff, Nat.reduceEqDiff, List.length_cons, List.length_nil, decide_true, decide_false, Bool.true_and, Bool.and_true, Bool.false_and, Bool.and_false, false_and, and_false, Bool.false_eq_true, Bool.true_eq_false, reduceCtorEq, eq_self, if_true, if_false, true_and, and_true, not_true_eq_false, not_false_eq_true, if_pos, if_neg, z_ite_not, false_or, or_false, true_or, or_true, SWs, swk_0, swk_1, h1, e1, e2, e3, e4]
    · have q := ih (fun j' h' => by
        by_cases y : j' = j
        · rw [y]; exact z
        · exact hn j' (by omega))
      by_cases y1 : pl F j % 8 = pl F i % 8
      · have y2 : ¬ nI (pl F j / 8) = nI (pl F i / 8) - nI 1 := by
          intro y
          by_cases w : 1 ≤ pl F i / 8
          · rw [q_sub w] at y
            have := nI_inj (by omega) (by omega) y
            omega
          · have w0 : pl F i / 8 = 0 := by omega
            rw [w0] at y
            have e : nI 0 - nI 1 = (-1 : Int32) := by decide +kernel
            rw [e] at y
            exact nI_ne (by omega) y
        simp (disch := first | omega | assumption | exact rfl) only [U_247_2, U_247_3, U_247_5, XX, q_le, q_eq, q_add, q_mul, q_inb, q_cl, KK, SHs, RRs, h1, e1, e2, e3, e4, y1, y2, if_true, if_false, eq_self, true_and, and_true, not_true_eq_false, not_false_eq_true, if_pos, if_neg, List.length_cons, List.length_nil, Nat.reduceAdd, Nat.reduceLeDiff]
        exact q
      · simp (disch := first | omega | assumption | exact rfl) only [U_247_2, U_247_5, XX, QQ, WW, KK, QX, SHs, RRs, Nat.reduceAdd, Nat.reduceMul, Nat.reduceLeDiff, Nat.reduceEqDiff, List.length_cons, List.length_nil, decide_true, decide_false, Bool.true_and, Bool.and_true, Bool.false_and, Bool.and_false, false_and, and_false, Bool.false_eq_true, Bool.true_eq_false, reduceCtorEq, eq_self, if_true, if_false, true_and, and_true, not_true_eq_false, not_false_eq_true, if_pos, if_neg, z_ite_not, false_or, or_false, true_or, or_true, SWs, swk_0, swk_1, h1, e1, e3, y1]
        exact q
def DN (I : Nat → Nat → Int32) (D : Nat) : Prop := ∀ i, i < 24 → I 194 i = bI (D.testBit i)
theorem r_canRest {X : Nat × (Nat → Int32)} {d : Nat} {I : Nat → Nat → Int32} {J : Nat → Nat → Int64} {a F i D : Nat} {B : Nat → Int32} (hd : 2 ≤ d) (ha : a < 6) (hR : RWl (I 178) a F B) (hi : i < pop F) (hD : DN I D) : callF X d 248 [.ref 177, .int (nI a), .int (nI i)] (mk I J) = some (some (.int (bI (rsB F B D i))), mk I J) := by
  have h24 := hR.1
  refine callF_at (by omega) (by decide) (Nat.le_of_ble_eq_true rfl) (fun d _ => ?_)
  show Ev X d 248 0 [.ref 177, .int (nI a), .int (nI i), .retAddr 0] [] ( mk I J) _
  have ro := r_restsOn (X := X) (d := d) (J := J) (by omega) ha hR hi
  unfold rsB
  rcases tch_in (s := 3) hi with q | ⟨j, hj, q, _, _⟩
  · rw [q] at ro ⊢
    rw [brI_m]
    simp (disch := first | omega | assumption | exact rfl) only [U_248_0, U_248_3, U_248_5, XX, QQ, WW, KK, QX, SHs, RRs, Nat.reduceAdd, Nat.reduceMul, Nat.reduceLeDiff, Nat.reduceEqDiff, List.length_cons, List.length_nil, decide_true, decide_false, Bool.true_and, Bool.and_true, Bool.false_and, Bool.and_false, false_and, and_false, Bool.false_eq_true, Bool.true_eq_false, reduceCtorEq, eq_self, if_true, if_false, true_and, and_true, not_true_eq_false, not_false_eq_true, if_pos, if_neg, z_ite_not, false_or, or_false, true_or, or_true, SWs, swk_0, swk_1, ro, Bool.true_or]
  · rw [q] at ro ⊢
    rw [brI_in hj (by omega)]
    have e := hR.2.2.2 j (by omega)
    by_cases z : B j = -1
    · rw [z] at e ⊢
      simp (disch := first | omega | assumption | exact rfl) only [U_248_0, U_248_1, U_248_3, U_248_5, XX, QQ, WW, KK, QX, SHs, RRs, Nat.reduceAdd, Nat.reduceMul, Nat.reduceLeDiff, Nat.reduceEqDiff, List.length_cons, List.length_nil, decide_true, decide_false, Bool.true_and, Bool.and_true, Bool.false_and, Bool.and_false, false_and, and_false, Bool.false_eq_true, Bool.true_eq_false, reduceCtorEq, eq_self, if_true, if_false, true_and, and_true, not_true_eq_false, not_false_eq_true, if_pos, if_neg, z_ite_not, false_or, or_false, true_or, or_true, SWs, swk_0, swk_1, ro, r_brick, e, Bool.true_or]
    · have ed := hD j (by omega)
      cases ht : D.testBit j with
      | true =>
        rw [ht] at ed
        simp (disch := first | omega | assumption | exact rfl) only [U_248_0, U_248_1, U_248_2, U_248_3, U_248_4, U_248_5, XX, QQ, WW, KK, QX, SHs, RRs, Nat.reduceAdd, Nat.reduceMul, Nat.reduceLeDiff, Nat.reduceEqDiff, List.length_cons, List.length_nil, decide_true, decide_false, Bool.true_and, Bool.and_true, Bool.false_and, Bool.and_false, false_and, and_false, Bool.false_eq_true, Bool.true_eq_false, reduceCtorEq, eq_self, if_true, if_false, true_and, and_true, not_true_eq_false, not_false_eq_true, if_pos, if_neg, z_ite_not, false_or, or_false, true_or, or_true, SWs, swk_0, swk_1, ro, r_brick, e, z, ed, ht, Bool.or_true, Bool.false_or]
      | false =>
        rw [ht] at ed
        simp (disch := first | omega | assumption | exact rfl) only [U_248_0, U_248_1, U_248_2, U_248_3, U_248_4, U_248_5, XX, QQ, WW, KK, QX, SHs, RRs, Nat.reduceAdd, Nat.reduceMul, Nat.reduceLeDiff, Nat.reduceEqDiff, List.length_cons, List.length_nil, decide_true, decide_false, Bool.true_and, Bool.and_true, Bool.false_and, Bool.and_false, false_and, and_false, Bool.false_eq_true, Bool.true_eq_false, reduceCtorEq, eq_self, if_true, if_false, true_and, and_true, not_true_eq_false, not_false_eq_true, if_pos, if_neg, z_ite_not, false_or, or_false, true_or, or_true, SWs, swk_0, swk_1, ro, r_brick, e, z, ed, ht, Bool.or_true, Bool.false_or]
theorem r_nextCell {X : Nat × (Nat → Int32)} {d : Nat} {I : Nat → Nat → Int32} {J : Nat → Nat → Int64} {a F F1 D L : Nat} {B B1 : Nat → Int32} {s : Bool} (hd : 3 ≤ d) (ha : a < 6) (hR : RWl (I 178) a F B) (hB : WB B (pop F)) (hD : DN I D) (hL : L < 2 ^ 24) (h6 : ∀ b, b < 24 → I 186 b = nI (nr F1 B1 b)) (h7 : ∀ b, b < 24 → I 187 b = nI (nr F B b)) : callF X d 249 [.ref 177, .int (nI a), .int (nI L), .int (bI s)] (mk I J) = some (some (.int (pk F1 B1 F B D L s)), mk I J) := by
  have h24 := hR.1
  have h1 := hR.2.1
  refine callF_at (by omega) (by decide) (Nat.le_of_ble_eq_true rfl) (fun d _ => ?_)
  show Ev X d 249 0 [.ref 177, .int (nI a), .int (nI L), .int (bI s), .retAddr 0] [] ( mk I J) _
  simp (disch := first | omega | assumption | exact rfl) only [U_249_0, XX, QQ, WW, KK, QX, SHs, RRs, Nat.reduceAdd, Nat.reduceMul, Nat.reduceLeDiff, Nat.reduceEqDiff, List.length_cons, List.length_nil, decide_true, decide_false, Bool.true_and, Bool.and_true, Bool.false_and, Bool.and_false, false_and, and_false, Bool.false_eq_true, Bool.true_eq_false, reduceCtorEq, eq_self, if_true, if_false, true_and, and_true, not_true_eq_false, not_false_eq_true, if_pos, if_neg, z_ite_not, false_or, or_false, true_or, or_true, SWs, swk_0, swk_1]
  unfold pk
  refine lp0 (n := pop F) (P := fun i => Ev X d 249 1 [.ref 177, .int (nI a), .int (nI L), .int (bI s), .int (nI i)] [] (mk I J) (some (.int (fstP (pkP F1 B1 F B D L s) (pop F - i) i)), mk I J)) ?_ ?_
  · rw [U_249_1, Nat.sub_self, fstP]
    simp (disch := first | omega | assumption | exact rfl) only [U_249_10, XX, QQ, WW, KK, QX, SHs, RRs, Nat.reduceAdd, Nat.reduceMul, Nat.reduceLeDiff, Nat.reduceEqDiff, List.length_cons, List.length_nil, decide_true, decide_false, Bool.true_and, Bool.and_true, Bool.false_and, Bool.and_false, false_and, and_false, Bool.false_eq_true, Bool.true_eq_false, reduceCtorEq, eq_self, if_true, if_false, true_and, and_true, not_true_eq_false, not_false_eq_true, if_pos, if_neg, z_ite_not, false_or, or_false, true_or, or_true, SWs, swk_0, swk_1, h1]
  · intro i hi ih
    rw [U_249_1, show pop F - i = (pop F - (i + 1)) + 1 by omega, fstP]
    have cr := r_canRest (X := X) (d := d) (J := J) (by omega) ha hR hi hD
    have e := hR.2.2.2 i (by omega)
    have ed := hD i (by omega)
    rcases hB.1 i hi with z | ⟨b, hb, z⟩
    · have e' : pkP F1 B1 F B D L s i = false := by simp [pkP, isB, z]
      rw [e']
      rw [z] at e
      simp only [Bool.false_eq_true, if_false]
      simp (disch := first | omega | assumption | exact rfl) only [U_249_2, U_249_9, XX, QQ, WW, KK, QX, SHs, RRs, Nat.reduceAdd, Nat.reduceMul, Nat.reduceLeDiff, Nat.reduceEqDiff, List.length_cons, List.length_nil, decide_true, decide_false, Bool.true_and, Bool.and_true, Bool.false_and, Bool.and_false, false_and, and_false, Bool.false_eq_true, Bool.true_eq_false, reduceCtorEq, eq_self, if_true, if_false, true_and, and_true, not_true_eq_false, not_false_eq_true, if_pos, if_neg, z_ite_not, false_or, or_false, true_or, or_true, SWs, swk_0, swk_1, h1, r_brick, e]
      exact ih
    · have ib := isB_t hb z
      rw [z] at e
      cases ht : D.testBit i with
      | true =>
        have e' : pkP F1 B1 F B D L s i = false := by simp [pkP, ht]
        rw [e']
        rw [ht] at ed
        simp only [Bool.false_eq_true, if_false]
        simp (disch := first | omega | assumption | exact rfl) only [U_249_2, U_249_3, U_249_9, XX, QQ, WW, KK, QX, SHs, RRs, Nat.reduceAdd, Nat.reduceMul, Nat.reduceLeDiff, Nat.reduceEqDiff, List.length_cons, List.length_nil, decide_true, decide_false, Bool.true_and, Bool.and_true, Bool.false_and, Bool.and_false, false_and, and_false, Bool.false_eq_true, Bool.true_eq_false, reduceCtorEq, eq_self, if_true, if_false, true_and, and_true, not_true_eq_false, not_false_eq_true, if_pos, if_neg, z_ite_not, false_or, or_false, true_or, or_true, SWs, swk_0, swk_1, h1, r_brick, e, ed]
        exact ih
      | false =>
        rw [ht] at ed
        cases hr : rsB F B D i with
        | false =>
          have e' : pkP F1 B1 F B D L s i = false := by simp [pkP, hr]
          rw [e']
          rw [hr] at cr
          simp only [Bool.false_eq_true, if_false]
          simp (disch := first | omega | assumption | exact rfl) only [U_249_2, U_249_3, U_249_4, U_249_5, U_249_9, XX, QQ, WW, KK, QX, SHs, RRs, Nat.reduceAdd, Nat.reduceMul, Nat.reduceLeDiff, Nat.reduceEqDiff, List.length_cons, List.length_nil, decide_true, decide_false, Bool.true_and, Bool.and_true, Bool.false_and, Bool.and_false, false_and, and_false, Bool.false_eq_true, Bool.true_eq_false, reduceCtorEq, eq_self, if_true, if_false, true_and, and_true, not_true_eq_false, not_false_eq_true, if_pos, if_neg, z_ite_not, false_or, or_false, true_or, or_true, SWs, swk_0, swk_1, h1, r_brick, e, ed, cr]
          exact ih
        | true =>
          rw [hr] at cr
          cases s with
          | true =>
            have e' : pkP F1 B1 F B D L true i = true := by simp [pkP, hr, ht, ib]
            rw [e', if_pos rfl]
            simp (disch := first | omega | assumption | exact rfl) only [U_249_2, U_249_3, U_249_4, U_249_6, U_249_8, XX, QQ, WW, KK, QX, SHs, RRs, Nat.reduceAdd, Nat.reduceMul, Nat.reduceLeDiff, Nat.reduceEqDiff, List.length_cons, List.length_nil, decide_true, decide_false, Bool.true_and, Bool.and_true, Bool.false_and, Bool.and_false, false_and, and_false, Bool.false_eq_true, Bool.true_eq_false, reduceCtorEq, eq_self, if_true, if_false, true_and, and_true, not_true_eq_false, not_false_eq_true, if_pos, if_neg, z_ite_not, false_or, or_false, true_or, or_true, SWs, swk_0, swk_1, h1, r_brick, e, ed, cr]
          | false =>
            have lb := h6 b hb
            have nb := h7 b hb
            have a1 : nr F B b &&& nr F1 B1 b &&& L < 2 ^ 24 := and_lt24 (and_lt24 (nr_lt _ _ _))
            have e' : pkP F1 B1 F B D L false i = decide (nr F B b &&& nr F1 B1 b &&& L ≠ 0) := by
              simp only [pkP, hr, ht, ib, z]; rw [nI_clamp (by omega)]; simp
            rw [e']
            by_cases y : nr F B b &&& nr F1 B1 b &&& L = 0
            · rw [if_neg (by simp [y])]
              simp (disch := first | omega | assumption | exact rfl) only [U_249_2, U_249_3, U_249_4, U_249_6, U_249_7, U_249_9, XX, QQ, WW, KK, QX, SHs, RRs, Nat.reduceAdd, Nat.reduceMul, Nat.reduceLeDiff, Nat.reduceEqDiff, List.length_cons, List.length_nil, decide_true, decide_false, Bool.true_and, Bool.and_true, Bool.false_and, Bool.and_false, false_and, and_false, Bool.false_eq_true, Bool.true_eq_false, reduceCtorEq, eq_self, if_true, if_false, true_and, and_true, not_true_eq_false, not_false_eq_true, if_pos, if_neg, z_ite_not, false_or, or_false, true_or, or_true, SWs, swk_0, swk_1, h1, r_brick, e, ed, cr, lb, nb, fa_and, y]
              exact ih
            · rw [if_pos (by simp [y])]
              simp (disch := first | omega | assumption | exact rfl) only [U_249_2, U_249_3, U_249_4, U_249_6, U_249_7, U_249_8, XX, QQ, WW, KK, QX, SHs, RRs, Nat.reduceAdd, Nat.reduceMul, Nat.reduceLeDiff, Nat.reduceEqDiff, List.length_cons, List.length_nil, decide_true, decide_false, Bool.true_and, Bool.and_true, Bool.false_and, Bool.and_false, false_and, and_false, Bool.false_eq_true, Bool.true_eq_false, reduceCtorEq, eq_self, if_true, if_false, true_and, and_true, not_true_eq_false, not_false_eq_true, if_pos, if_neg, z_ite_not, false_or, or_false, true_or, or_true, SWs, swk_0, swk_1, h1, r_brick, e, ed, cr, lb, nb, fa_and, y]
theorem sm_ct {p : Nat → Bool} : ∀ n, fb_sm (fun i => if p i = true then 1 else 0) n = fb_ct p n
  | 0 => rfl
  | n + 1 => by rw [fb_sm_succ, sm_ct n, fb_ct_succ]
theorem pop_ins {F : Nat} {B : Nat → Int32} (hB : WB B (pop F)) : pop (ins F B) = fb_ct (isB B) (pop F) := by
  unfold ins
  rw [pop_bs]
  have r := reidx (B := B) (fun _ => 1) (pop F) hB.1 hB.2.1
  rw [sm_ct (p := fun b => cd (∃ i, i < pop F ∧ B i = nI b))] at r
  rw [← r, ← sm_ct]
  refine fb_sm_cong (fun i hi => ?_)
  by_cases z : B i = -1
  · rw [if_pos z, if_neg (by simp [isB, z])]
  · rw [if_neg z, if_pos (by simp [isB, z])]
theorem r_orderLoop {X : Nat × (Nat → Int32)} {d : Nat} {I : Nat → Nat → Int32} {J : Nat → Nat → Int64} {a F F1 n : Nat} {B B1 : Nat → Int32} {uu3 : Value} {v : Int32} (hd : 4 ≤ d) (ha : a < 6) (hR : RWl (I 178) a F B) (hB : WB B (pop F)) (hn : n = fb_ct (isB B) (pop F)) (h6 : ∀ b, b < 24 → I 186 b = nI (nr F1 B1 b)) (h7 : ∀ b, b < 24 → I 187 b = nI (nr F B b)) {u1 u7 : Value} : ∃ I', (I' 177 42 = nI (od F1 B1 F B n).2.2 ∧ (∀ j, j < n → I' 197 j = oq F1 B1 F B j) ∧ (∀ k, k ≠ 177 → k ≠ 194 → k ≠ 197 → I' k = I k) ∧ ∀ k, k ≠ 42 → I' 177 k = I 177 k) ∧ ∀ r, (∀ u5 u7, Ev X d 250 14 [.ref 177, u1, .int (nI a), .int v, .int (nI n), u5, .int (nI n), u7] [] (mk I' J) r) → Ev X d 250 6 [.ref 177, u1, .int (nI a), .int v, .int (nI n), .retAddr 0, .retAddr 0, u7] [] (mk I J) r := by
  have h24 := hR.1
  have n24 : n ≤ 24 := by rw [hn]; exact Nat.le_trans (fb_ct_le _ _) h24
  have inv := od_inv (F1 := F1) (B1 := B1) h24 hB
  rw [← hn] at inv
  obtain ⟨I0, hI0⟩ : ∃ I0, I0 = va_up (va_up I 194 (fillI 24 (nI 0) (I 194))) 177 (va_up (I 177) 42 (nI 0)) := ⟨_, rfl⟩
  have lp : ∃ I', (I' 177 42 = nI (od F1 B1 F B n).2.2 ∧ (∀ j, j < n → I' 197 j = oq F1 B1 F B j) ∧ (∀ k, k ≠ 177 → k ≠ 194 → k ≠ 197 → I' k = I k) ∧ ∀ k, k ≠ 42 → I' 177 k = I 177 k) ∧ ∀ r, (∀ u5 u7, Ev X d 250 14 [.ref 177, u1, .int (nI a), .int v, .int (nI n), u5, .int (nI n), u7] [] (mk I' J) r) → Ev X d 250 10 [.ref 177, u1, .int (nI a), .int v, .int (nI n), .int (nI 0), .int (nI 0), u7] [] (mk I0 J) r := by
    refine lpI (n := n) (P := fun k => ∀ I1, (I1 177 42 = nI (od F1 B1 F B k).2.2 ∧ DN I1 (od F1 B1 F B k).1 ∧ (∀ j, j < k → I1 197 j = oq F1 B1 F B j) ∧ (∀ k, k ≠ 177 → k ≠ 194 → k ≠ 197 → I1 k = I k) ∧ ∀ k, k ≠ 42 → I1 177 k = I 177 k) → ∀ u7 : Value, ∃ I', (I' 177 42 = nI (od F1 B1 F B n).2.2 ∧ (∀ j, j < n → I' 197 j = oq F1 B1 F B j) ∧ (∀ k, k ≠ 177 → k ≠ 194 → k ≠ 197 → I' k = I k) ∧ ∀ k, k ≠ 42 → I' 177 k = I 177 k) ∧ ∀ r, (∀ u5 u7, Ev X d 250 14 [.ref 177, u1, .int (nI a), .int v, .int (nI n), u5, .int (nI n), u7] [] (mk I' J) r) → Ev X d 250 10 [.ref 177, u1, .int (nI a), .int v, .int (nI n), .int (nI (od F1 B1 F B k).2.1), .int (nI k), u7] [] (mk I1 J) r) ?_ ?_ (fun L => ?_)
    · intro I1 ⟨q1, q2, q3, q4, q5⟩ u7
      refine ⟨I1, ⟨q1, q3, q4, q5⟩, fun r hr => ?_⟩
      rw [U_250_10]
      simp (disch := omega) only [XX, QQ, eq_self, if_true, if_pos]
      exact hr _ _
    · intro k hk ih I1 ⟨q1, q2, q3, q4, q5⟩ u7
      obtain ⟨v1, v2, v3, v4, v5⟩ := inv k (by omega)
      obtain ⟨c, c1, c2, c3, c4, c5, c6⟩ := v5 hk
      obtain ⟨b, hb, eb⟩ := isB_v hB c1 c3
      obtain ⟨D, hD⟩ : ∃ D, D = (od F1 B1 F B k).1 := ⟨_, rfl⟩
      obtain ⟨L, hLe⟩ : ∃ L, L = (od F1 B1 F B k).2.1 := ⟨_, rfl⟩
      obtain ⟨st, hst⟩ : ∃ st, st = (od F1 B1 F B k).2.2 := ⟨_, rfl⟩
      have eo : od F1 B1 F B (k + 1) = (D ||| 2 ^ c, L ||| 2 ^ b, st + (if pk F1 B1 F B D L false = -1 then 1 else 0)) := by
        rw [od, c2, eb, nI_clamp (by omega), hD, hLe, hst]
      have eq : oq F1 B1 F B k = nI b := by unfold oq; rw [c2, eb]
      rw [← hD, ← hLe] at c2 c5 c6
      rw [← hD] at v1 v2 c4 q2
      rw [← hLe] at v3
      rw [← hst] at v4 q1
      rw [← hLe]
      have e178 : I1 178 = I 178 := q4 _ (by decide) (by decide) (by decide)
      have hR1 : RWl (I1 178) a F B := by rw [e178]; exact hR
      have nf := r_nextCell (X := X) (d := d) (J := J) (I := I1) (F1 := F1) (B1 := B1) (s := false) (by omega) ha hR1 hB q2 v3 (by rw [q4 _ (by decide) (by decide) (by decide)]; exact h6) (by rw [q4 _ (by decide) (by decide) (by decide)]; exact h7)
      have nt := r_nextCell (X := X) (d := d) (J := J) (I := I1) (F1 := F1) (B1 := B1) (s := true) (by omega) ha hR1 hB q2 v3 (by rw [q4 _ (by decide) (by decide) (by decide)]; exact h6) (by rw [q4 _ (by decide) (by decide) (by decide)]; exact h7)
      rw [show bI false = nI 0 from rfl] at nf
      rw [show bI true = nI 1 from rfl] at nt
      have gc := hR.2.2.2 c (by omega)
      rw [eb, ← e178] at gc
      have step : ∀ I2, (∀ a, a ≠ 177 → I2 a = I1 a) → (∀ i, i ≠ 42 → I2 177 i = I 177 i) → I2 177 42 = nI (od F1 B1 F B (k + 1)).2.2 → ∃ I', (I' 177 42 = nI (od F1 B1 F B n).2.2 ∧ (∀ j, j < n → I' 197 j = oq F1 B1 F B j) ∧ (∀ k, k ≠ 177 → k ≠ 194 → k ≠ 197 → I' k = I k) ∧ ∀ k, k ≠ 42 → I' 177 k = I 177 k) ∧ ∀ r, (∀ u5 u7, Ev X d 250 14 [.ref 177, u1, .int (nI a), .int v, .int (nI n), u5, .int (nI n), u7] [] (mk I' J) r) → Ev X d 250 13 [.ref 177, u1, .int (nI a), .int v, .int (nI n), .int (nI L), .int (nI k), .int (nI c)] [] (mk I2 J) r := by
        intro I2 g1 g2 g3
        obtain ⟨I3, hI3⟩ : ∃ I3, I3 = va_up (va_up I2 194 (va_up (I2 194) c (nI 1))) 197 (va_up (I2 197) k (nI b)) := ⟨_, rfl⟩
        have hS : I3 177 42 = nI (od F1 B1 F B (k + 1)).2.2 ∧ DN I3 (od F1 B1 F B (k + 1)).1 ∧ (∀ j, j < k + 1 → I3 197 j = oq F1 B1 F B j) ∧ (∀ k, k ≠ 177 → k ≠ 194 → k ≠ 197 → I3 k = I k) ∧ ∀ k, k ≠ 42 → I3 177 k = I 177 k := by
          refine ⟨?_, fun i hi => ?_, fun j hj => ?_, fun x x1 x2 x3 => ?_, fun x hx => ?_⟩
          · rw [hI3, vu_ne (by decide), vu_ne (by decide)]; exact g3
          · rw [hI3, vu_ne (by decide), vu_eq, eo]
            simp only [tb_set]
            by_cases y : i = c
            · subst y; rw [vu_eq]; simp; rfl
            · rw [vu_ne y, g1 _ (by decide), q2 i hi, decide_eq_false (fun z => y z.symm), Bool.or_false]
          · rw [hI3, vu_eq]
            by_cases y : j = k
            · rw [y, vu_eq, eq]
            · rw [vu_ne y, g1 _ (by decide)]; exact q3 j (by omega)
          · rw [hI3, vu_ne x3, vu_ne x2, g1 x x1, q4 x x1 x2 x3]
          · rw [hI3, vu_ne (by decide), vu_ne (by decide)]; exact g2 x hx
        obtain ⟨I', p1, p2⟩ := ih I3 hS (.int (nI c))
        refine ⟨I', p1, fun r hr => ?_⟩
        have q := p2 r hr
        rw [eo, hI3] at q
        have g8 := g1 178 (by decide)
        simp (disch := first | omega | assumption | exact rfl) only [U_250_13, XX, QQ, WW, KK, QX, SHs, RRs, Nat.reduceAdd, Nat.reduceMul, Nat.reduceLeDiff, Nat.reduceEqDiff, List.length_cons, List.length_nil, decide_true, decide_false, Bool.true_and, Bool.and_true, Bool.false_and, Bool.and_false, false_and, and_false, Bool.false_eq_true, Bool.true_eq_false, reduceCtorEq, eq_self, if_true, if_false, true_and, and_true, not_true_eq_false, not_false_eq_true, if_pos, if_neg, z_ite_not, false_or, or_false, true_or, or_true, SWs, swk_0, swk_1, r_brick, g8, gc, fa_or]
        exact q
      by_cases z : pk F1 B1 F B D L false = -1
      · have pt := c5 z
        rw [z] at nf
        rw [pt] at nt
        obtain ⟨I', p1, p2⟩ := step (va_up I1 177 (va_up (I1 177) 42 (nI (st + 1)))) (fun a ha => vu_ne ha) (fun i hi => by rw [vu_eq, vu_ne hi, q5 i hi]) (by rw [vu_eq, vu_eq, eo]; simp only [z, if_true])
        refine ⟨I', p1, fun r hr => ?_⟩
        have q := p2 r hr
        rw [U_250_10]
        simp (disch := first | omega | assumption | exact rfl) only [U_250_11, U_250_12, XX, QQ, WW, KK, QX, SHs, RRs, Nat.reduceAdd, Nat.reduceMul, Nat.reduceLeDiff, Nat.reduceEqDiff, List.length_cons, List.length_nil, decide_true, decide_false, Bool.true_and, Bool.and_true, Bool.false_and, Bool.and_false, false_and, and_false, Bool.false_eq_true, Bool.true_eq_false, reduceCtorEq, eq_self, if_true, if_false, true_and, and_true, not_true_eq_false, not_false_eq_true, if_pos, if_neg, z_ite_not, false_or, or_false, true_or, or_true, SWs, swk_0, swk_1, nf, nt, q1]
        exact q
      · have pf := c6 z
        rw [pf] at nf
        obtain ⟨I', p1, p2⟩ := step I1 (fun _ _ => rfl) (fun i hi => q5 i hi) (by rw [eo]; simp only [z, if_false, Nat.add_zero]; exact q1)
        refine ⟨I', p1, fun r hr => ?_⟩
        have q := p2 r hr
        rw [U_250_10]
        simp (disch := first | omega | assumption | exact rfl) only [U_250_11, XX, QQ, WW, KK, QX, SHs, RRs, Nat.reduceAdd, Nat.reduceMul, Nat.reduceLeDiff, Nat.reduceEqDiff, List.length_cons, List.length_nil, decide_true, decide_false, Bool.true_and, Bool.and_true, Bool.false_and, Bool.and_false, false_and, and_false, Bool.false_eq_true, Bool.true_eq_false, reduceCtorEq, eq_self, if_true, if_false, true_and, and_true, not_true_eq_false, not_false_eq_true, if_pos, if_neg, z_ite_not, false_or, or_false, true_or, or_true, SWs, swk_0, swk_1, nf]
        exact q
    · refine L I0 ⟨?_, fun i hi => ?_, fun j hj => by omega, fun k k1 k2 k3 => ?_, fun k hk => ?_⟩ u7
      · rw [hI0, vu_eq, vu_eq]; rfl
      · rw [hI0, vu_ne (by decide), vu_eq]
        show (if i < 24 then nI 0 else _) = bI ((0 : Nat).testBit i)
        rw [if_pos hi, Nat.zero_testBit]; rfl
      · rw [hI0, vu_ne k1, vu_ne k2]
      · rw [hI0, vu_eq, vu_ne hk]
  obtain ⟨I', p1, p2⟩ := lp
  refine ⟨I', p1, fun r hr => ?_⟩
  have q := p2 r hr
  rw [hI0] at q
  simp (disch := first | omega | assumption | exact rfl) only [U_250_6, XX, QQ, WW, KK, QX, SHs, RRs, Nat.reduceAdd, Nat.reduceMul, Nat.reduceLeDiff, Nat.reduceEqDiff, List.length_cons, List.length_nil, decide_true, decide_false, Bool.true_and, Bool.and_true, Bool.false_and, Bool.and_false, false_and, and_false, Bool.false_eq_true, Bool.true_eq_false, reduceCtorEq, eq_self, if_true, if_false, true_and, and_true, not_true_eq_false, not_false_eq_true, if_pos, if_neg, z_ite_not, false_or, or_false, true_or, or_true, SWs, swk_0, swk_1]
  refine lpI (n := 24) (P := fun k => Ev X d 250 7 [.ref 177, u1, .int (nI a), .int v, .int (nI n), .int (nI k), .retAddr 0, u7] [] (mk (va_up I 194 (fillI k (nI 0) (I 194))) J) r) ?_ ?_ (fun L => by rw [fillI_0, vu_id] at L; exact L)
  · rw [U_250_7]
    simp (disch := first | omega | assumption | exact rfl) only [U_250_9, XX, QQ, WW, KK, QX, SHs, RRs, Nat.reduceAdd, Nat.reduceMul, Nat.reduceLeDiff, Nat.reduceEqDiff, List.length_cons, List.length_nil, decide_true, decide_false, Bool.true_and, Bool.and_true, Bool.false_and, Bool.and_false, false_and, and_false, Bool.false_eq_true, Bool.true_eq_false, reduceCtorEq, eq_self, if_true, if_false, true_and, and_true, not_true_eq_false, not_false_eq_true, if_pos, if_neg, z_ite_not, false_or, or_false, true_or, or_true, SWs, swk_0, swk_1]
    exact q
  · intro k hk ih'
    rw [U_250_7]
    simp (disch := first | omega | assumption | exact rfl) only [U_250_8, XX, QQ, WW, KK, QX, SHs, RRs, Nat.reduceAdd, Nat.reduceMul, Nat.reduceLeDiff, Nat.reduceEqDiff, List.length_cons, List.length_nil, decide_true, decide_false, Bool.true_and, Bool.and_true, Bool.false_and, Bool.and_false, false_and, and_false, Bool.false_eq_true, Bool.true_eq_false, reduceCtorEq, eq_self, if_true, if_false, true_and, and_true, not_true_eq_false, not_false_eq_true, if_pos, if_neg, z_ite_not, false_or, or_false, true_or, or_true, SWs, swk_0, swk_1, fillI_s]
    exact ih'
theorem b_order {X : Nat × (Nat → Int32)} {d : Nat} {I : Nat → Nat → Int32} {J : Nat → Nat → Int64} {u v w : Int32} (hd : 8 ≤ d) (h : Inv I J) : Both X d 140 250 [.int u, .int v, .int w] I J := by
  obtain ⟨FW, hw⟩ := Inv_wl h
  obtain ⟨_, al, be, yr, s1, s2, s3, s4, s5, s6, s7, s8, s9⟩ := Inv_sc h
  obtain ⟨mks, brk, hm⟩ := Inv_mk h
  rcases of_d u 5 6 rfl (by decide) with ⟨a, ha, rfl⟩ | ⟨o1, o2⟩
  · rcases of_d v 5 6 rfl (by decide) with ⟨b, hb, rfl⟩ | ⟨o1, o2⟩
    · obtain ⟨d, rfl⟩ : ∃ d', d = d' + 1 := ⟨d - 1, by omega⟩
      obtain ⟨hG1, hB1, hR1⟩ := hw a ha
      obtain ⟨hG2, hB2, hR2⟩ := hw b hb
      have h24 := hG2.2.2.1
      have hm1 := fun k hk => (hm k hk).2.2.1
      have hm4 := fun k hk => (hm k hk).1
      obtain ⟨B1, e1⟩ : ∃ B1, B1 = I (14 + 4 * a + 1) := ⟨_, rfl⟩
      obtain ⟨B2, e2⟩ : ∃ B2, B2 = I (14 + 4 * b + 1) := ⟨_, rfl⟩
      have ln := s_learn (X := X) (d := d) (by omega) NA_137 (by decide) hG1 (by omega) hB1 s4 s1 hm1 hm4
      obtain ⟨I1, hI1⟩ : ∃ I1, I1 = Ilrn I 137 (FW a) (I (14 + 4 * a + 1)) al mks := ⟨_, rfl⟩
      have f1 : ∀ k, k < 137 ∨ 139 < k → I1 k = I k := fun k hk => by rw [hI1]; exact Ilrn_fr hk
      have hL := Ilrn_LN (I := I) (N := 137) (F := FW a) (B := I (14 + 4 * a + 1)) (al := al) (mks := mks)
      rw [← hI1] at ln hL
      rw [← e1] at hL hR1 hB1
      have hG2' : WG (mk I1 J) (14 + 4 * b) (FW b) := WG_fr hG2 (fun k _ _ => f1 k (by omega)) rfl
      obtain ⟨I2, k1, ⟨q1, q2, q3, q4, q5⟩, k3⟩ := c_build (X := X) (d := d) (I := I1) (J := J) (F1 := FW a) (B1 := B1) (by omega) hG2' (by omega) (by rw [f1 _ (by omega)]; exact hB2) hL
      rw [f1 (14 + 4 * b + 1) (by omega), ← e2] at q1 q2 q3 q4 q5
      rw [← e2] at hR2 hB2
      obtain ⟨n, hn⟩ : ∃ n, n = fb_ct (isB B2) (pop (FW b)) := ⟨_, rfl⟩
      rw [← hn] at q1 q2 q3 q4 q5
      have n24 : n ≤ 24 := by rw [hn]; exact Nat.le_trans (fb_ct_le _ _) h24
      have fc : FC I I2 J J := ⟨fun k hk => by rw [k3 k (by omega) (by omega), f1 k (by omega)], fun _ _ => rfl⟩
      -- the reference
      have rf : ∀ I3 J3, FC I I3 J J3 → ∃ I5, FR I3 I5 ∧ I5 177 42 = nI (od (FW a) B1 (FW b) B2 n).2.2 ∧ (∀ j, j < n → I5 197 j = oq (FW a) B1 (FW b) B2 j) ∧ ∀ r, (∀ u5 u7, Ev X d 250 14 [.ref 177, .int (nI a), .int (nI b), .int w, .int (nI n), u5, .int (nI n), u7] [] (mk I5 J3) r) → (w = 0 ∨ (∃ k, w = nI k ∧ 10 ≤ k ∧ k < 10 + n)) → Ev X d 250 0 [.ref 177, .int (nI a), .int (nI b), .int w, .retAddr 0, .retAddr 0, .retAddr 0, .retAddr 0] [] (mk I3 J3) r := by
        intro I3 J3 hF
        have e178 : I3 178 = I 178 := hF.1 _ (by omega)
        have cp := r_compares (X := X) (d := d) (I := I3) (J := J3) (by omega) ha hb (by rw [e178]; exact hR1) hB1 (by rw [e178]; exact hR2) hB2
        obtain ⟨I4, hI4⟩ : ∃ I4, I4 = Icmp I3 (FW a) B1 (FW b) B2 := ⟨_, rfl⟩
        have ns := Icmp_NS (I := I3) (F1 := FW a) (B1 := B1) (F2 := FW b) (B2 := B2)
        have fr4 := FR_cmp (I := I3) (F1 := FW a) (B1 := B1) (F2 := FW b) (B2 := B2)
        rw [← hI4] at cp ns fr4
        have e4 : I4 178 = I 178 := by rw [fr4.2.1, e178]
        obtain ⟨n1, n2, n3, n4, n5, n6, n7, n8⟩ := ns
        obtain ⟨I5, ⟨p1, p2, p3, p4⟩, p5⟩ := r_orderLoop (X := X) (d := d) (I := I4) (J := J3) (F1 := FW a) (B1 := B1) (n := n) (v := w) (uu3 := .retAddr 0) (u1 := .int (nI a)) (u7 := .retAddr 0) (by omega) hb (by rw [e4]; exact hR2) hB2 hn n3 n4
        refine ⟨I5, FR_trans fr4 (FR_of (fun k h1 h2 => p3 k h2 (by omega) (by omega)) (fun k hk => p4 k (by omega))), p1, p2, fun r hr hw => ?_⟩
        have q := p5 r hr
        have pi := pop_ins hB2
        rw [← hn] at pi
        rcases hw with rfl | ⟨k, rfl, k1, k2⟩
        · simp (disch := first | omega | assumption | exact rfl) only [U_250_0, U_250_1, U_250_3, XX, QQ, WW, KK, QX, SHs, RRs, Nat.reduceAdd, Nat.reduceMul, Nat.reduceLeDiff, Nat.reduceEqDiff, List.length_cons, List.length_nil, decide_true, decide_false, Bool.true_and, Bool.and_true, Bool.false_and, Bool.and_false, false_and, and_false, Bool.false_eq_true, Bool.true_eq_false, reduceCtorEq, eq_self, if_true, if_false, true_and, and_true, not_true_eq_false, not_false_eq_true, if_pos, if_neg, z_ite_not, false_or, or_false, true_or, or_true, SWs, swk_0, swk_1, r_isWall, cp, n2, r_count, pi]
          exact q
        · simp (disch := first | omega | assumption | exact rfl) only [U_250_0, U_250_1, U_250_3, U_250_4, XX, QQ, WW, KK, QX, SHs, RRs, Nat.reduceAdd, Nat.reduceMul, Nat.reduceLeDiff, Nat.reduceEqDiff, List.length_cons, List.length_nil, decide_true, decide_false, Bool.true_and, Bool.and_true, Bool.false_and, Bool.and_false, false_and, and_false, Bool.false_eq_true, Bool.true_eq_false, reduceCtorEq, eq_self, if_true, if_false, true_and, and_true, not_true_eq_false, not_false_eq_true, if_pos, if_neg, z_ite_not, false_or, or_false, true_or, or_true, SWs, swk_0, swk_1, r_isWall, cp, n2, r_count, pi, r_isIn]
          exact q
      by_cases w0 : w = 0
      · refine Both_q (nI (od (FW a) B1 (FW b) B2 n).2.2) h ⟨I2, J, ?_, fc⟩ (fun I3 J3 _ hF => ?_)
        · refine callF_at (by omega) (by decide) (Nat.le_of_ble_eq_true rfl) (fun d' hd' => ?_)
          obtain rfl : d = d' := by omega
          show Ev X d 140 0 [.ref 0, .int (nI a), .int (nI b), .int w] [] (mk I J) _
          simp (disch := first | omega | assumption | exact rfl) only [U_140_0, U_140_1, U_140_3, U_140_4, XX, QQ, WW, KK, QX, SHs, RRs, Nat.reduceAdd, Nat.reduceMul, Nat.reduceLeDiff, Nat.reduceEqDiff, List.length_cons, List.length_nil, decide_true, decide_false, Bool.true_and, Bool.and_true, Bool.false_and, Bool.and_false, false_and, and_false, Bool.false_eq_true, Bool.true_eq_false, reduceCtorEq, eq_self, if_true, if_false, true_and, and_true, not_true_eq_false, not_false_eq_true, if_pos, if_neg, z_ite_not, false_or, or_false, true_or, or_true, SWs, swk_0, swk_1, s_isOf, WLs, ln, k1, w0, q2]
        · obtain ⟨I5, p1, p2, p3, p4⟩ := rf I3 J3 hF
          refine ⟨I5, ?_, p1⟩
          refine callF_at (by omega) (by decide) (Nat.le_of_ble_eq_true rfl) (fun d' hd' => ?_)
          obtain rfl : d = d' := by omega
          show Ev X d 250 0 [.ref 177, .int (nI a), .int (nI b), .int w, .retAddr 0, .retAddr 0, .retAddr 0, .retAddr 0] [] (mk I3 J3) _
          refine p4 _ (fun u5 u7 => ?_) (.inl w0)
          simp (disch := first | omega | assumption | exact rfl) only [U_250_14, U_250_15, U_250_17, XX, QQ, WW, KK, QX, SHs, RRs, Nat.reduceAdd, Nat.reduceMul, Nat.reduceLeDiff, Nat.reduceEqDiff, List.length_cons, List.length_nil, decide_true, decide_false, Bool.true_and, Bool.and_true, Bool.false_and, Bool.and_false, false_and, and_false, Bool.false_eq_true, Bool.true_eq_false, reduceCtorEq, eq_self, if_true, if_false, true_and, and_true, not_true_eq_false, not_false_eq_true, if_pos, if_neg, z_ite_not, false_or, or_false, true_or, or_true, SWs, swk_0, swk_1, w0, p2]
      · by_cases hin : ∃ k, w = nI k ∧ 10 ≤ k ∧ k < 10 + n
        · obtain ⟨k, rfl, z1, z2⟩ := id hin
          refine Both_q (oq (FW a) B1 (FW b) B2 (k - 10)) h ⟨I2, J, ?_, fc⟩ (fun I3 J3 _ hF => ?_)
          · refine callF_at (by omega) (by decide) (Nat.le_of_ble_eq_true rfl) (fun d' hd' => ?_)
            obtain rfl : d = d' := by omega
            show Ev X d 140 0 [.ref 0, .int (nI a), .int (nI b), .int (nI k)] [] (mk I J) _
            have e := q5 (k - 10) (by omega)
            simp (disch := first | omega | assumption | exact rfl) only [U_140_0, U_140_1, U_140_3, U_140_5, U_140_6, U_140_7, U_140_8, U_140_9, XX, QQ, WW, KK, QX, SHs, RRs, Nat.reduceAdd, Nat.reduceMul, Nat.reduceLeDiff, Nat.reduceEqDiff, List.length_cons, List.length_nil, decide_true, decide_false, Bool.true_and, Bool.and_true, Bool.false_and, Bool.and_false, false_and, and_false, Bool.false_eq_true, Bool.true_eq_false, reduceCtorEq, eq_self, if_true, if_false, true_and, and_true, not_true_eq_false, not_false_eq_true, if_pos, if_neg, z_ite_not, false_or, or_false, true_or, or_true, SWs, swk_0, swk_1, s_isOf, WLs, ln, k1, q1, e]
          · obtain ⟨I5, p1, p2, p3, p4⟩ := rf I3 J3 hF
            refine ⟨I5, ?_, p1⟩
            refine callF_at (by omega) (by decide) (Nat.le_of_ble_eq_true rfl) (fun d' hd' => ?_)
            obtain rfl : d = d' := by omega
            show Ev X d 250 0 [.ref 177, .int (nI a), .int (nI b), .int (nI k), .retAddr 0, .retAddr 0, .retAddr 0, .retAddr 0] [] (mk I3 J3) _
            refine p4 _ (fun u5 u7 => ?_) (.inr hin)
            have e := p3 (k - 10) (by omega)
            simp (disch := first | omega | assumption | exact rfl) only [U_250_14, U_250_16, U_250_17, XX, QQ, WW, KK, QX, SHs, RRs, Nat.reduceAdd, Nat.reduceMul, Nat.reduceLeDiff, Nat.reduceEqDiff, List.length_cons, List.length_nil, decide_true, decide_false, Bool.true_and, Bool.and_true, Bool.false_and, Bool.and_false, false_and, and_false, Bool.false_eq_true, Bool.true_eq_false, reduceCtorEq, eq_self, if_true, if_false, true_and, and_true, not_true_eq_false, not_false_eq_true, if_pos, if_neg, z_ite_not, false_or, or_false, true_or, or_true, SWs, swk_0, swk_1, e]
        · have ho : w < nI 10 ∨ (¬ w < nI 10 ∧ nI (10 + n) ≤ w) := by
            by_cases y : w < nI 10
            · exact .inl y
            · refine .inr ⟨y, ?_⟩
              have h0 : ¬ w < 0 := fun z => y (fa_trans z (by decide +kernel))
              obtain ⟨k, hk, rfl⟩ := nI_of h0
              rw [nI_ltI hk (by decide)] at y
              rw [nI_leI (by omega) hk]
              exact Classical.byContradiction (fun z => hin ⟨k, rfl, by omega, by omega⟩)
          have hno : (decide (nI 10 ≤ w) && decide (w ≤ nI (9 + n))) = false := by
            rcases ho with y | ⟨y1, y2⟩
            · have : ¬ nI 10 ≤ w := (fa_of_lt y).2.1
              simp [this]
            · have := fa_trans (nI_lt (show 9 + n < 10 + n by omega) (by omega)) y2
              have : ¬ w ≤ nI (9 + n) := (fa_of_lt this).2.1
              simp [this]
          refine Both_q (-1) h ⟨I2, J, ?_, fc⟩ (fun I3 J3 _ hF => ?_)
          · refine callF_at (by omega) (by decide) (Nat.le_of_ble_eq_true rfl) (fun d' hd' => ?_)
            obtain rfl : d = d' := by omega
            show Ev X d 140 0 [.ref 0, .int (nI a), .int (nI b), .int w] [] (mk I J) _
            rcases ho with y | ⟨y1, y2⟩
            · simp (disch := first | omega | assumption | exact rfl) only [U_140_0, U_140_1, U_140_3, U_140_5, U_140_8, U_140_9, XX, QQ, WW, KK, QX, SHs, RRs, Nat.reduceAdd, Nat.reduceMul, Nat.reduceLeDiff, Nat.reduceEqDiff, List.length_cons, List.length_nil, decide_true, decide_false, Bool.true_and, Bool.and_true, Bool.false_and, Bool.and_false, false_and, and_false, Bool.false_eq_true, Bool.true_eq_false, reduceCtorEq, eq_self, if_true, if_false, true_and, and_true, not_true_eq_false, not_false_eq_true, if_pos, if_neg, z_ite_not, false_or, or_false, true_or, or_true, SWs, swk_0, swk_1, s_isOf, WLs, ln, k1, w0, y]
            · simp (disch := first | omega | assumption | exact rfl) only [U_140_0, U_140_1, U_140_3, U_140_5, U_140_6, U_140_8, U_140_9, XX, QQ, WW, KK, QX, SHs, RRs, Nat.reduceAdd, Nat.reduceMul, Nat.reduceLeDiff, Nat.reduceEqDiff, List.length_cons, List.length_nil, decide_true, decide_false, Bool.true_and, Bool.and_true, Bool.false_and, Bool.and_false, false_and, and_false, Bool.false_eq_true, Bool.true_eq_false, reduceCtorEq, eq_self, if_true, if_false, true_and, and_true, not_true_eq_false, not_false_eq_true, if_pos, if_neg, z_ite_not, false_or, or_false, true_or, or_true, SWs, swk_0, swk_1, s_isOf, WLs, ln, k1, w0, y1, y2, q1]
          · have e178 : I3 178 = I 178 := hF.1 _ (by omega)
            have cp := r_compares (X := X) (d := d) (I := I3) (J := J3) (by omega) ha hb (by rw [e178]; exact hR1) hB1 (by rw [e178]; exact hR2) hB2
            have ns := Icmp_NS (I := I3) (F1 := FW a) (B1 := B1) (F2 := FW b) (B2 := B2)
            refine ⟨_, ?_, FR_cmp (F1 := FW a) (B1 := B1) (F2 := FW b) (B2 := B2)⟩
            have n2 := ns.2.1
            have n6 := ns.2.2.2.2.2.1
            have pi := pop_ins hB2
            rw [← hn] at pi
            refine callF_at (by omega) (by decide) (Nat.le_of_ble_eq_true rfl) (fun d' hd' => ?_)
            obtain rfl : d = d' := by omega
            show Ev X d 250 0 [.ref 177, .int (nI a), .int (nI b), .int w, .retAddr 0, .retAddr 0, .retAddr 0, .retAddr 0] [] (mk I3 J3) _
            simp (disch := first | omega | assumption | exact rfl) only [U_250_0, U_250_1, U_250_3, U_250_4, U_250_5, XX, QQ, WW, KK, QX, SHs, RRs, Nat.reduceAdd, Nat.reduceMul, Nat.reduceLeDiff, Nat.reduceEqDiff, List.length_cons, List.length_nil, decide_true, decide_false, Bool.true_and, Bool.and_true, Bool.false_and, Bool.and_false, false_and, and_false, Bool.false_eq_true, Bool.true_eq_false, reduceCtorEq, eq_self, if_true, if_false, true_and, and_true, not_true_eq_false, not_false_eq_true, if_pos, if_neg, z_ite_not, false_or, or_false, true_or, or_true, SWs, swk_0, swk_1, r_isWall, cp, n2, r_count, pi, r_isIn, w0, hno]
    · refine Both_0 (-1) h ?_ ?_
      · refine callF_at (by omega) (by decide) (Nat.le_of_ble_eq_true rfl) (fun d _ => ?_)
        show Ev X d 140 0 [.ref 0, .int (nI a), .int v, .int w] [] ( mk I J) _
        simp (disch := first | omega | assumption | exact rfl) only [U_140_0, U_140_1, U_140_2, XX, QQ, WW, KK, QX, SHs, RRs, Nat.reduceAdd, Nat.reduceMul, Nat.reduceLeDiff, Nat.reduceEqDiff, List.length_cons, List.length_nil, decide_true, decide_false, Bool.true_and, Bool.and_true, Bool.false_and, Bool.and_false, false_and, and_false, Bool.false_eq_true, Bool.true_eq_false, reduceCtorEq, eq_self, if_true, if_false, true_and, and_true, not_true_eq_false, not_false_eq_true, if_pos, if_neg, z_ite_not, false_or, or_false, true_or, or_true, SWs, swk_0, swk_1, s_isOf, o1]
      · refine callF_at (by omega) (by decide) (Nat.le_of_ble_eq_true rfl) (fun d _ => ?_)
        show Ev X d 250 0 [.ref 177, .int (nI a), .int v, .int w, .retAddr 0, .retAddr 0, .retAddr 0, .retAddr 0] [] ( mk I J) _
        simp (disch := first | omega | assumption | exact rfl) only [U_250_0, U_250_1, U_250_2, XX, QQ, WW, KK, QX, SHs, RRs, Nat.reduceAdd, Nat.reduceMul, Nat.reduceLeDiff, Nat.reduceEqDiff, List.length_cons, List.length_nil, decide_true, decide_false, Bool.true_and, Bool.and_true, Bool.false_and, Bool.and_false, false_and, and_false, Bool.false_eq_true, Bool.true_eq_false, reduceCtorEq, eq_self, if_true, if_false, true_and, and_true, not_true_eq_false, not_false_eq_true, if_pos, if_neg, z_ite_not, false_or, or_false, true_or, or_true, SWs, swk_0, swk_1, r_isWall, o2]
  · refine Both_0 (-1) h ?_ ?_
    · refine callF_at (by omega) (by decide) (Nat.le_of_ble_eq_true rfl) (fun d _ => ?_)
      show Ev X d 140 0 [.ref 0, .int u, .int v, .int w] [] ( mk I J) _
      simp (disch := first | omega | assumption | exact rfl) only [U_140_0, U_140_1, U_140_2, XX, QQ, WW, KK, QX, SHs, RRs, Nat.reduceAdd, Nat.reduceMul, Nat.reduceLeDiff, Nat.reduceEqDiff, List.length_cons, List.length_nil, decide_true, decide_false, Bool.true_and, Bool.and_true, Bool.false_and, Bool.and_false, false_and, and_false, Bool.false_eq_true, Bool.true_eq_false, reduceCtorEq, eq_self, if_true, if_false, true_and, and_true, not_true_eq_false, not_false_eq_true, if_pos, if_neg, z_ite_not, false_or, or_false, true_or, or_true, SWs, swk_0, swk_1, s_isOf, o1]
    · refine callF_at (by omega) (by decide) (Nat.le_of_ble_eq_true rfl) (fun d _ => ?_)
      show Ev X d 250 0 [.ref 177, .int u, .int v, .int w, .retAddr 0, .retAddr 0, .retAddr 0, .retAddr 0] [] ( mk I J) _
      simp (disch := first | omega | assumption | exact rfl) only [U_250_0, U_250_1, U_250_2, XX, QQ, WW, KK, QX, SHs, RRs, Nat.reduceAdd, Nat.reduceMul, Nat.reduceLeDiff, Nat.reduceEqDiff, List.length_cons, List.length_nil, decide_true, decide_false, Bool.true_and, Bool.and_true, Bool.false_and, Bool.and_false, false_and, and_false, Bool.false_eq_true, Bool.true_eq_false, reduceCtorEq, eq_self, if_true, if_false, true_and, and_true, not_true_eq_false, not_false_eq_true, if_pos, if_neg, z_ite_not, false_or, or_false, true_or, or_true, SWs, swk_0, swk_1, r_isWall, o2]
