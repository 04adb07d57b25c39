/-! ===== text: the reference ===== -/
section TXR
variable {X : Nat × (Nat → Int32)} {d : Nat} {I : Nat → Nat → Int32} {J : Nat → Nat → Int64} {tp : Nat → Nat} {tl k : Nat}
theorem r_tx0 {v : Int32} (hd : 2 ≤ d) (o2 : (decide (nI 0 ≤ v) && decide (v ≤ nI 8)) = false) : callF X d 183 [.ref 177, .int v] (mk I J) = some (some (.int (-1)), mk (va_up I 177 (va_up (va_up (va_up (va_up (I 177) 17 (nI 0)) 12 (nI 0)) 19 (nI 0)) 21 (-1))) J) := by
  obtain ⟨d, rfl⟩ : ∃ d', d = d' + 1 := ⟨d - 1, by omega⟩
  refine callF_of (by decide) (Nat.le_of_ble_eq_true rfl) ?_
  show Ev X d 183 0 [.ref 177, .int v, .retAddr 0] [] ( mk I J) _
  simp (disch := first | omega | assumption | exact rfl) only [U_183_0, U_183_1, XX, QQ, WW, KK, QX, SHs, RRs, Nat.reduceAdd, Nat.reduceMul, Nat.reduceLeDiff, Nat.reduceEqDiff, List.length_cons, List.length_nil, decide_true, decide_false, Bool.true_and, Bool.and_true, Bool.false_and, Bool.and_false, false_and, and_false, Bool.false_eq_true, Bool.true_eq_false, reduceCtorEq, eq_self, if_true, if_false, true_and, and_true, not_true_eq_false, not_false_eq_true, if_pos, if_neg, z_ite_not, false_or, or_false, true_or, or_true, SWs, swk_0, swk_1, r_isIn, o2]
theorem r_grid0 : ∀ i, i ≤ 64 → ∀ I : Nat → Nat → Int32, (∀ q, q < i → I 185 q = nI 0) → ∃ I', (∀ a, a ≠ 185 → I' a = I a) ∧ GR I' 0 ∧ ∀ r, Ev X d 183 5 [.ref 177, .int (nI k), .int (nI 64)] [] (mk I' J) r → Ev X d 183 3 [.ref 177, .int (nI k), .int (nI i)] [] (mk I J) r := by
  refine lpd (n := 64) (fun I h => ⟨I, fun _ _ => rfl, fun q hq => by rw [h q hq, Nat.zero_testBit]; rfl, fun r Hr => ?_⟩) (fun i hi ih I h => ?_)
  · simp (disch := first | omega | assumption | exact rfl) only [U_183_3, XX, QQ, WW, KK, QX, SHs, RRs, Nat.reduceAdd, Nat.reduceMul, Nat.reduceLeDiff, Nat.reduceEqDiff, List.length_cons, List.length_nil, decide_true, decide_false, Bool.true_and, Bool.and_true, Bool.false_and, Bool.and_false, false_and, and_false, Bool.false_eq_true, Bool.true_eq_false, reduceCtorEq, eq_self, if_true, if_false, true_and, and_true, not_true_eq_false, not_false_eq_true, if_pos, if_neg, z_ite_not, false_or, or_false, true_or, or_true, SWs, swk_0, swk_1]
    exact Hr
  · obtain ⟨I', f, g, H⟩ := ih (va_up I 185 (va_up (I 185) i (nI 0))) (fun q hq => by
      rw [vu_eq]
      by_cases z : q = i
      · subst z; rw [vu_eq]
      · rw [vu_ne z]; exact h q (by omega))
    refine ⟨I', fun a ha => by rw [f a ha, vu_ne ha], g, fun r Hr => ?_⟩
    have H1 := H r Hr
    rw [U_183_3]
    simp (disch := first | omega | assumption | exact rfl) only [U_183_4, XX, QQ, WW, KK, QX, SHs, RRs, Nat.reduceAdd, Nat.reduceMul, Nat.reduceLeDiff, Nat.reduceEqDiff, List.length_cons, List.length_nil, decide_true, decide_false, Bool.true_and, Bool.and_true, Bool.false_and, Bool.and_false, false_and, and_false, Bool.false_eq_true, Bool.true_eq_false, reduceCtorEq, eq_self, if_true, if_false, true_and, and_true, not_true_eq_false, not_false_eq_true, if_pos, if_neg, z_ite_not, false_or, or_false, true_or, or_true, SWs, swk_0, swk_1]
    exact H1
/-- the reference before the first line -/
theorem r_start (hd : 14 ≤ d) (hk : k < 9) (hT : RTp I tp tl) : ∃ I1, (∀ a, a ≠ 177 → a ≠ 185 → I1 a = I a) ∧ (∀ j, j < 9 ∨ j = 12 ∨ 17 < j → I1 177 j = I 177 j) ∧ RTp I1 tp tl ∧ I1 177 17 = nI 0 ∧ I1 177 9 = nI k ∧ I1 177 10 = nI 0 ∧ I1 177 11 = nI 0 ∧ GR I1 0 ∧ RCur I1 tp tl (decide (k < 6)) 0 ∧ ∀ r, Ev X d 183 6 [.ref 177, .int (nI k), .int (nI 1)] [] (mk I1 J) r → callF X (d + 1) 183 [.ref 177, .int (nI k)] (mk I J) = some r := by
  obtain ⟨h, eh⟩ : ∃ h, h = va_up (va_up (va_up (va_up (va_up (I 177) 17 (nI 0)) 9 (nI k)) 13 (nI 0)) 10 (nI 0)) 11 (nI 0) := ⟨_, rfl⟩
  obtain ⟨I1, f1, g1, H1⟩ := r_grid0 (X := X) (d := d) (J := J) (k := k) 0 (Nat.zero_le _) (va_up I 177 h) (fun q hq => absurd hq (Nat.not_lt_zero q))
  have e1 : I1 177 = h := by rw [f1 177 (by decide), vu_eq]
  have f2 : ∀ a, a ≠ 177 → a ≠ 185 → I1 a = I a := fun a a1 a2 => (f1 a a2).trans (vu_ne a1)
  have hj : ∀ j, j < 9 ∨ j = 12 ∨ 17 < j → h j = I 177 j := fun j hj => by rw [eh, vu_ne (by omega), vu_ne (by omega), vu_ne (by omega), vu_ne (by omega), vu_ne (by omega)]
  have h17 : h 17 = nI 0 := by rw [eh, vu_ne (by decide), vu_ne (by decide), vu_ne (by decide), vu_ne (by decide), vu_eq]
  have h9 : h 9 = nI k := by rw [eh, vu_ne (by decide), vu_ne (by decide), vu_ne (by decide), vu_eq]
  have h13 : h 13 = nI 0 := by rw [eh, vu_ne (by decide), vu_ne (by decide), vu_eq]
  have h10 : h 10 = nI 0 := by rw [eh, vu_ne (by decide), vu_eq]
  have h11 : h 11 = nI 0 := by rw [eh, vu_eq]
  have T1 : RTp I1 tp tl := ⟨hT.1, by rw [e1, hj 12 (by omega)]; exact hT.2.1, fun i hi => by rw [f2 182 (by decide) (by decide)]; exact hT.2.2 i hi⟩
  obtain ⟨g, n1, n2, n3, n4, n5, n6⟩ := r_next0 (X := X) (d := d) (I := I1) (J := J) (tp := tp) (tl := tl) (a := 0) (w := k) (p := tpo tp tl 0) hd T1 (by rw [e1]; exact h13) (Nat.zero_le _) (by rw [e1]; exact h9) hk rfl
  rw [e1] at n6
  refine ⟨va_up I1 177 g, fun a a1 a2 => (vu_ne a1).trans (f2 a a1 a2), fun j j1 => ?_, ⟨hT.1, ?_, fun i hi => ?_⟩, ?_, ?_, ?_, ?_, fun q hq => ?_, ⟨?_, ?_, ?_, fun z => ?_⟩, fun r Hr => ?_⟩
  · rw [vu_eq, n6 j (by omega) (by omega) (by omega) (by omega)]; exact hj j j1
  · rw [vu_eq, n6 12 (by decide) (by decide) (by decide) (by decide), hj 12 (by omega)]; exact hT.2.1
  · rw [vu_ne (by decide)]; exact T1.2.2 i hi
  · rw [vu_eq, n6 _ (by decide) (by decide) (by decide) (by decide)]; exact h17
  · rw [vu_eq, n6 _ (by decide) (by decide) (by decide) (by decide)]; exact h9
  · rw [vu_eq, n6 _ (by decide) (by decide) (by decide) (by decide)]; exact h10
  · rw [vu_eq, n6 _ (by decide) (by decide) (by decide) (by decide)]; exact h11
  · rw [vu_ne (by decide)]; exact g1 q hq
  · rw [vu_eq]; exact n2
  · rw [vu_eq]; exact n3
  · rw [vu_eq]; exact n4
  · rw [vu_eq]
    obtain ⟨a, b⟩ := tkK_2 z
    exact n5 a b
  · have k8 : k ≤ 8 := by omega
    have H2 : Ev X d 183 3 [.ref 177, .int (nI k), .int (nI 0)] [] (mk (va_up I 177 h) J) r := by
      refine H1 r ?_
      simp (disch := first | omega | assumption | exact rfl) only [U_183_5, XX, QQ, WW, KK, QX, SHs, RRs, Nat.reduceAdd, Nat.reduceMul, Nat.reduceLeDiff, Nat.reduceEqDiff, List.length_cons, List.length_nil, decide_true, decide_false, Bool.true_and, Bool.and_true, Bool.false_and, Bool.and_false, false_and, and_false, Bool.false_eq_true, Bool.true_eq_false, reduceCtorEq, eq_self, if_true, if_false, true_and, and_true, not_true_eq_false, not_false_eq_true, if_pos, if_neg, z_ite_not, false_or, or_false, true_or, or_true, SWs, swk_0, swk_1, n1]
      exact Hr
    rw [eh] at H2
    refine callF_of (by decide) (Nat.le_of_ble_eq_true rfl) ?_
    show Ev X d 183 0 [.ref 177, .int (nI k), .retAddr 0] [] ( mk I J) _
    simp (disch := first | omega | assumption | exact rfl) only [U_183_0, U_183_2, XX, QQ, WW, KK, QX, SHs, RRs, Nat.reduceAdd, Nat.reduceMul, Nat.reduceLeDiff, Nat.reduceEqDiff, List.length_cons, List.length_nil, decide_true, decide_false, Bool.true_and, Bool.and_true, Bool.false_and, Bool.and_false, false_and, and_false, Bool.false_eq_true, Bool.true_eq_false, reduceCtorEq, eq_self, if_true, if_false, true_and, and_true, not_true_eq_false, not_false_eq_true, if_pos, if_neg, z_ite_not, false_or, or_false, true_or, or_true, SWs, swk_0, swk_1, r_isIn, k8]
    exact H2
theorem r_endF {kk : Int32} : Ev X d 183 15 [.ref 177, .int kk, .int (nI 0)] [] (mk I J) (some (.int (-1)), mk (va_up I 177 (va_up (va_up (va_up (I 177) 12 (nI 0)) 19 (I 177 17)) 21 (I 177 18))) J) := by
  simp (disch := first | omega | assumption | exact rfl) only [U_183_15, U_183_17, U_183_18, U_183_19, U_183_23, XX, QQ, WW, KK, QX, SHs, RRs, Nat.reduceAdd, Nat.reduceMul, Nat.reduceLeDiff, Nat.reduceEqDiff, List.length_cons, List.length_nil, decide_true, decide_false, Bool.true_and, Bool.and_true, Bool.false_and, Bool.and_false, false_and, and_false, Bool.false_eq_true, Bool.true_eq_false, reduceCtorEq, eq_self, if_true, if_false, true_and, and_true, not_true_eq_false, not_false_eq_true, if_pos, if_neg, z_ite_not, false_or, or_false, true_or, or_true, SWs, swk_0, swk_1]
/-- 184: a shape is kept -/
def inS (k x : Nat) : Prop := x = 70 + k ∨ (80 + 24 * k ≤ x ∧ x < 104 + 24 * k) ∨ (224 + 24 * k ≤ x ∧ x < 248 + 24 * k)
theorem r_184 {F : Nat} (hd : 1 ≤ d) (hk : k < 6) (hG : GR I F) (h24 : pop F ≤ 24) : ∃ g, callF X d 184 [.ref 177, .int (nI k)] (mk I J) = some (some (.int (nI (pop F))), mk (va_up I 178 g) J) ∧ RSh g k F ∧ ∀ x, ¬ inS k x → g x = I 178 x := by
  have lp : ∀ i, i ≤ 64 → ∀ g : Nat → Int32, (∀ j, j < num F i → g (80 + 24 * k + j) = nI (pl F j % 8) ∧ g (224 + 24 * k + j) = nI (pl F j / 8)) → ∃ g', (∀ j, j < pop F → g' (80 + 24 * k + j) = nI (pl F j % 8) ∧ g' (224 + 24 * k + j) = nI (pl F j / 8)) ∧ (∀ x, ¬ inS k x → g' x = g x) ∧ ∀ d, Ev X d 184 1 [.ref 177, .int (nI k), .int (nI (num F i)), .int (nI i)] [] (mk (va_up I 178 g) J) (some (.int (nI (pop F))), mk (va_up I 178 (va_up g' (70 + k) (nI (pop F)))) J) := by
    refine lpd (n := 64) (fun g hg => ⟨g, hg, fun _ _ => rfl, fun d => ?_⟩) (fun i hi ih g hg => ?_)
    · have e : num F 64 = pop F := rfl
      rw [e]
      simp (disch := first | omega | assumption | exact rfl) only [U_184_1, U_184_6, XX, QQ, WW, KK, QX, SHs, RRs, Nat.reduceAdd, Nat.reduceMul, Nat.reduceLeDiff, Nat.reduceEqDiff, List.length_cons, List.length_nil, decide_true, decide_false, Bool.true_and, Bool.and_true, Bool.false_and, Bool.and_false, false_and, and_false, Bool.false_eq_true, Bool.true_eq_false, reduceCtorEq, eq_self, if_true, if_false, true_and, and_true, not_true_eq_false, not_false_eq_true, if_pos, if_neg, z_ite_not, false_or, or_false, true_or, or_true, SWs, swk_0, swk_1]
    · have n1 := num_le_pop (F := F) (q := i) (by omega)
      have gi := hG i hi
      have sc : num F (i + 1) = num F i + (if F.testBit i = true then 1 else 0) := fb_ct_succ _ _
      cases z : F.testBit i with
      | true =>
        rw [z, if_pos rfl] at sc
        rw [z] at gi
        have lt := num_lt hi z
        have pe := pl_num hi z
        rw [sc] at ih
        obtain ⟨g', p1, p2, p3⟩ := ih (va_up (va_up g (80 + 24 * k + num F i) (nI (i % 8))) (224 + 24 * k + num F i) (nI (i / 8))) (fun j hj => by
          by_cases zj : j = num F i
          · subst zj; rw [vu_ne (by omega), vu_eq, vu_eq, pe]; exact ⟨rfl, rfl⟩
          · rw [vu_ne (by omega), vu_ne (by omega), vu_ne (by omega), vu_ne (by omega)]; exact hg j (by omega))
        refine ⟨g', p1, fun x hx => ?_, fun d => ?_⟩
        · rw [p2 x hx, vu_ne (fun e => hx (by unfold inS; omega)), vu_ne (fun e => hx (by unfold inS; omega))]
        · have H := p3 d
          have dv : nI i / nI 8 = nI (i / 8) := q_div (by omega) (by decide) (by decide)
          have rm : nI i - nI (i / 8) * nI 8 = nI (i % 8) := by rw [← dv]; exact n_rem (by omega) (by decide) (by decide)
          rw [U_184_1]
          simp (disch := first | omega | assumption | exact rfl) only [U_184_2, U_184_4, U_184_5, XX, QQ, WW, KK, QX, SHs, RRs, Nat.reduceAdd, Nat.reduceMul, Nat.reduceLeDiff, Nat.reduceEqDiff, List.length_cons, List.length_nil, decide_true, decide_false, Bool.true_and, Bool.and_true, Bool.false_and, Bool.and_false, false_and, and_false, Bool.false_eq_true, Bool.true_eq_false, reduceCtorEq, eq_self, if_true, if_false, true_and, and_true, not_true_eq_false, not_false_eq_true, if_pos, if_neg, z_ite_not, false_or, or_false, true_or, or_true, SWs, swk_0, swk_1, gi]
          rw [dv, rm]
          exact H
      | false =>
        rw [z, if_neg (by decide)] at sc
        rw [z] at gi
        rw [sc] at ih
        obtain ⟨g', p1, p2, p3⟩ := ih g hg
        refine ⟨g', p1, p2, fun d => ?_⟩
        have H := p3 d
        rw [U_184_1]
        simp (disch := first | omega | assumption | exact rfl) only [U_184_2, U_184_3, U_184_5, XX, QQ, WW, KK, QX, SHs, RRs, Nat.reduceAdd, Nat.reduceMul, Nat.reduceLeDiff, Nat.reduceEqDiff, List.length_cons, List.length_nil, decide_true, decide_false, Bool.true_and, Bool.and_true, Bool.false_and, Bool.and_false, false_and, and_false, Bool.false_eq_true, Bool.true_eq_false, reduceCtorEq, eq_self, if_true, if_false, true_and, and_true, not_true_eq_false, not_false_eq_true, if_pos, if_neg, z_ite_not, false_or, or_false, true_or, or_true, SWs, swk_0, swk_1, gi]
        exact H
  obtain ⟨g', p1, p2, p3⟩ := lp 0 (Nat.zero_le _) (I 178) (fun j hj => absurd hj (Nat.not_lt_zero j))
  refine ⟨va_up g' (70 + k) (nI (pop F)), ?_, ⟨h24, by rw [vu_eq], fun i hi => ?_⟩, fun x hx => ?_⟩
  · refine callF_at (by omega) (by decide) (Nat.le_of_ble_eq_true rfl) (fun d _ => ?_)
    show Ev X d 184 0 [.ref 177, .int (nI k), .retAddr 0, .retAddr 0] [] ( mk I J) _
    have H := p3 d
    rw [vu_id] at H
    simp (disch := first | omega | assumption | exact rfl) only [U_184_0, XX, QQ, WW, KK, QX, SHs, RRs, Nat.reduceAdd, Nat.reduceMul, Nat.reduceLeDiff, Nat.reduceEqDiff, List.length_cons, List.length_nil, decide_true, decide_false, Bool.true_and, Bool.and_true, Bool.false_and, Bool.and_false, false_and, and_false, Bool.false_eq_true, Bool.true_eq_false, reduceCtorEq, eq_self, if_true, if_false, true_and, and_true, not_true_eq_false, not_false_eq_true, if_pos, if_neg, z_ite_not, false_or, or_false, true_or, or_true, SWs, swk_0, swk_1]
    exact H
  · rw [vu_ne (by omega), vu_ne (by omega)]; exact p1 i hi
  · rw [vu_ne (fun e => hx (Or.inl e))]; exact p2 x hx
/-- 185: a rule is kept -/
def inR (k x : Nat) : Prop := x = 4490 + k ∨ (4500 + 16 * k ≤ x ∧ x < 4516 + 16 * k) ∨ (4550 + 16 * k ≤ x ∧ x < 4566 + 16 * k) ∨ (4600 + 16 * k ≤ x ∧ x < 4616 + 16 * k) ∨ (4650 + 16 * k ≤ x ∧ x < 4666 + 16 * k) ∨ (4700 + 820 * k ≤ x ∧ x < 5520 + 820 * k)
def kpL (I : Nat → Nat → Int32) (g : Nat → Int32) (k j : Nat) : Prop := g (4500 + 16 * k + j) = I 180 (4 * j) ∧ g (4550 + 16 * k + j) = I 180 (4 * j + 1) ∧ g (4600 + 16 * k + j) = I 180 (4 * j + 2) ∧ g (4650 + 16 * k + j) = I 180 (4 * j + 3)
theorem r_185 {L n : Nat} (hd : 1 ≤ d) (hk : k < 3) (hL : L ≤ 16) (hn : n ≤ 400) (h10 : I 177 10 = nI L) (h11 : I 177 11 = nI n) : ∃ g, callF X d 185 [.ref 177, .int (nI k)] (mk I J) = some (some (.int (nI L)), mk (va_up I 178 g) J) ∧ g (4490 + k) = nI L ∧ (∀ j, j < L → kpL I g k j) ∧ (∀ j, j < 2 * n → g (4700 + 820 * k + j) = I 181 j) ∧ ∀ x, ¬ inR k x → g x = I 178 x := by
  have l2 : ∀ i, i ≤ 2 * n → ∀ g : Nat → Int32, (∀ j, j < i → g (4700 + 820 * k + j) = I 181 j) → ∃ g', (∀ j, j < 2 * n → g' (4700 + 820 * k + j) = I 181 j) ∧ (∀ x, ¬ (4700 + 820 * k ≤ x ∧ x < 5520 + 820 * k) → g' x = g x) ∧ ∀ d, Ev X d 185 4 [.ref 177, .int (nI k), .int (nI i)] [] (mk (va_up I 178 g) J) (some (.int (nI L)), mk (va_up I 178 g') J) := by
    refine lpd (n := 2 * n) (fun g hg => ⟨g, hg, fun _ _ => rfl, fun d => ?_⟩) (fun i hi ih g hg => ?_)
    · simp (disch := first | omega | assumption | exact rfl) only [U_185_4, U_185_6, XX, QQ, WW, KK, QX, SHs, RRs, Nat.reduceAdd, Nat.reduceMul, Nat.reduceLeDiff, Nat.reduceEqDiff, List.length_cons, List.length_nil, decide_true, decide_false, Bool.true_and, Bool.and_true, Bool.false_and, Bool.and_false, false_and, and_false, Bool.false_eq_true, Bool.true_eq_false, reduceCtorEq, eq_self, if_true, if_false, true_and, and_true, not_true_eq_false, not_false_eq_true, if_pos, if_neg, z_ite_not, false_or, or_false, true_or, or_true, SWs, swk_0, swk_1, h10, h11]
    · obtain ⟨g', p1, p2, p3⟩ := ih (va_up g (4700 + 820 * k + i) (I 181 i)) (fun j hj => by
        by_cases z : j = i
        · subst z; rw [vu_eq]
        · rw [vu_ne (by omega)]; exact hg j (by omega))
      refine ⟨g', p1, fun x hx => by rw [p2 x hx, vu_ne (by omega)], fun d => ?_⟩
      have H := p3 d
      rw [U_185_4]
      simp (disch := first | omega | assumption | exact rfl) only [U_185_5, XX, QQ, WW, KK, QX, SHs, RRs, Nat.reduceAdd, Nat.reduceMul, Nat.reduceLeDiff, Nat.reduceEqDiff, List.length_cons, List.length_nil, decide_true, decide_false, Bool.true_and, Bool.and_true, Bool.false_and, Bool.and_false, false_and, and_false, Bool.false_eq_true, Bool.true_eq_false, reduceCtorEq, eq_self, if_true, if_false, true_and, and_true, not_true_eq_false, not_false_eq_true, if_pos, if_neg, z_ite_not, false_or, or_false, true_or, or_true, SWs, swk_0, swk_1, h11]
      exact H
  have l1 : ∀ i, i ≤ L → ∀ g : Nat → Int32, (∀ j, j < i → kpL I g k j) → ∃ g', (∀ j, j < L → kpL I g' k j) ∧ (∀ x, x = 4490 + k ∨ 4700 ≤ x ∨ ¬ inR k x → g' x = g x) ∧ ∀ d r, Ev X d 185 3 [.ref 177, .int (nI k), .int (nI L)] [] (mk (va_up I 178 g') J) r → Ev X d 185 1 [.ref 177, .int (nI k), .int (nI i)] [] (mk (va_up I 178 g) J) r := by
    refine lpd (n := L) (fun g hg => ⟨g, hg, fun _ _ => rfl, fun d r Hr => ?_⟩) (fun i hi ih g hg => ?_)
    · simp (disch := first | omega | assumption | exact rfl) only [U_185_1, XX, QQ, WW, KK, QX, SHs, RRs, Nat.reduceAdd, Nat.reduceMul, Nat.reduceLeDiff, Nat.reduceEqDiff, List.length_cons, List.length_nil, decide_true, decide_false, Bool.true_and, Bool.and_true, Bool.false_and, Bool.and_false, false_and, and_false, Bool.false_eq_true, Bool.true_eq_false, reduceCtorEq, eq_self, if_true, if_false, true_and, and_true, not_true_eq_false, not_false_eq_true, if_pos, if_neg, z_ite_not, false_or, or_false, true_or, or_true, SWs, swk_0, swk_1, h10]
      exact Hr
    · obtain ⟨g', p1, p2, p3⟩ := ih (va_up (va_up (va_up (va_up g (4500 + 16 * k + i) (I 180 (4 * i))) (4550 + 16 * k + i) (I 180 (4 * i + 1))) (4600 + 16 * k + i) (I 180 (4 * i + 2))) (4650 + 16 * k + i) (I 180 (4 * i + 3))) (fun j hj => by
        unfold kpL
        by_cases z : j = i
        · subst z
          rw [vu_ne (by omega), vu_ne (by omega), vu_ne (by omega), vu_eq]
          rw [vu_ne (by omega), vu_ne (by omega), vu_eq]
          rw [vu_ne (by omega), vu_eq]
          rw [vu_eq]
          exact ⟨rfl, rfl, rfl, rfl⟩
        · rw [vu_ne (by omega), vu_ne (by omega), vu_ne (by omega), vu_ne (by omega)]
          rw [vu_ne (by omega), vu_ne (by omega), vu_ne (by omega), vu_ne (by omega)]
          rw [vu_ne (by omega), vu_ne (by omega), vu_ne (by omega), vu_ne (by omega)]
          rw [vu_ne (by omega), vu_ne (by omega), vu_ne (by omega), vu_ne (by omega)]
          exact hg j (by omega))
      refine ⟨g', p1, fun x hx => ?_, fun d r Hr => ?_⟩
      · unfold inR at hx
        rw [p2 x hx, vu_ne (by omega), vu_ne (by omega), vu_ne (by omega), vu_ne (by omega)]
      · have H := p3 d r Hr
        rw [U_185_1]
        simp (disch := first | omega | assumption | exact rfl) only [U_185_2, XX, QQ, WW, KK, QX, SHs, RRs, Nat.reduceAdd, Nat.reduceMul, Nat.reduceLeDiff, Nat.reduceEqDiff, List.length_cons, List.length_nil, decide_true, decide_false, Bool.true_and, Bool.and_true, Bool.false_and, Bool.and_false, false_and, and_false, Bool.false_eq_true, Bool.true_eq_false, reduceCtorEq, eq_self, if_true, if_false, true_and, and_true, not_true_eq_false, not_false_eq_true, if_pos, if_neg, z_ite_not, false_or, or_false, true_or, or_true, SWs, swk_0, swk_1, h10]
        exact H
  obtain ⟨g1, a1, a2, a3⟩ := l1 0 (Nat.zero_le _) (va_up (I 178) (4490 + k) (nI L)) (fun j hj => absurd hj (Nat.not_lt_zero j))
  obtain ⟨g2, b1, b2, b3⟩ := l2 0 (Nat.zero_le _) g1 (fun j hj => absurd hj (Nat.not_lt_zero j))
  refine ⟨g2, ?_, ?_, fun j hj => ?_, b1, fun x hx => ?_⟩
  · refine callF_at (by omega) (by decide) (Nat.le_of_ble_eq_true rfl) (fun d _ => ?_)
    show Ev X d 185 0 [.ref 177, .int (nI k), .retAddr 0] [] ( mk I J) _
    have H := a3 d (some (.int (nI L)), mk (va_up I 178 g2) J) (by
      have H2 := b3 d
      simp (disch := first | omega | assumption | exact rfl) only [U_185_3, XX, QQ, WW, KK, QX, SHs, RRs, Nat.reduceAdd, Nat.reduceMul, Nat.reduceLeDiff, Nat.reduceEqDiff, List.length_cons, List.length_nil, decide_true, decide_false, Bool.true_and, Bool.and_true, Bool.false_and, Bool.and_false, false_and, and_false, Bool.false_eq_true, Bool.true_eq_false, reduceCtorEq, eq_self, if_true, if_false, true_and, and_true, not_true_eq_false, not_false_eq_true, if_pos, if_neg, z_ite_not, false_or, or_false, true_or, or_true, SWs, swk_0, swk_1]
      exact H2)
    simp (disch := first | omega | assumption | exact rfl) only [U_185_0, XX, QQ, WW, KK, QX, SHs, RRs, Nat.reduceAdd, Nat.reduceMul, Nat.reduceLeDiff, Nat.reduceEqDiff, List.length_cons, List.length_nil, decide_true, decide_false, Bool.true_and, Bool.and_true, Bool.false_and, Bool.and_false, false_and, and_false, Bool.false_eq_true, Bool.true_eq_false, reduceCtorEq, eq_self, if_true, if_false, true_and, and_true, not_true_eq_false, not_false_eq_true, if_pos, if_neg, z_ite_not, false_or, or_false, true_or, or_true, SWs, swk_0, swk_1, h10]
    exact H
  · rw [b2 _ (by omega), a2 _ (Or.inl rfl), vu_eq]
  · obtain ⟨c1, c2, c3, c4⟩ := a1 j hj
    refine ⟨?_, ?_, ?_, ?_⟩
    · rw [b2 _ (by omega)]; exact c1
    · rw [b2 _ (by omega)]; exact c2
    · rw [b2 _ (by omega)]; exact c3
    · rw [b2 _ (by omega)]; exact c4
  · have hx' := hx
    unfold inR at hx'
    rw [b2 x (by omega), a2 x (Or.inr (Or.inr hx)), vu_ne (by omega)]
theorem r_endT {g : Nat → Int32} {v : Int32} (hk : k < 6) (h : callF X d 184 [.ref 177, .int (nI k)] (mk (va_up I 177 (va_up (va_up (va_up (I 177) 12 (nI 0)) 19 (I 177 17)) 21 (-1))) J) = some (some (.int v), mk (va_up (va_up I 177 (va_up (va_up (va_up (I 177) 12 (nI 0)) 19 (I 177 17)) 21 (-1))) 178 g) J)) : Ev X d 183 15 [.ref 177, .int (nI k), .int (nI 1)] [] (mk I J) (some (.int v), mk (va_up (va_up I 177 (va_up (va_up (va_up (I 177) 12 (nI 0)) 19 (I 177 17)) 21 (-1))) 178 g) J) := by
  simp (disch := first | omega | assumption | exact rfl) only [U_183_15, U_183_16, U_183_18, U_183_20, U_183_21, U_183_23, XX, QQ, WW, KK, QX, SHs, RRs, Nat.reduceAdd, Nat.reduceMul, Nat.reduceLeDiff, Nat.reduceEqDiff, List.length_cons, List.length_nil, decide_true, decide_false, Bool.true_and, Bool.and_true, Bool.false_and, Bool.and_false, false_and, and_false, Bool.false_eq_true, Bool.true_eq_false, reduceCtorEq, eq_self, if_true, if_false, true_and, and_true, not_true_eq_false, not_false_eq_true, if_pos, if_neg, z_ite_not, false_or, or_false, true_or, or_true, SWs, swk_0, swk_1, hk, h]
theorem r_endT2 {g : Nat → Int32} {j : Nat} {v : Int32} (hj : j < 3) (ej : k = j + 6) (h : callF X d 185 [.ref 177, .int (nI j)] (mk (va_up I 177 (va_up (va_up (va_up (I 177) 12 (nI 0)) 19 (I 177 17)) 21 (-1))) J) = some (some (.int v), mk (va_up (va_up I 177 (va_up (va_up (va_up (I 177) 12 (nI 0)) 19 (I 177 17)) 21 (-1))) 178 g) J)) : Ev X d 183 15 [.ref 177, .int (nI k), .int (nI 1)] [] (mk I J) (some (.int v), mk (va_up (va_up I 177 (va_up (va_up (va_up (I 177) 12 (nI 0)) 19 (I 177 17)) 21 (-1))) 178 g) J) := by
  subst ej
  have z6 : ¬ j + 6 < 6 := by omega
  simp (disch := first | omega | assumption | exact rfl) only [U_183_15, U_183_16, U_183_18, U_183_20, U_183_22, U_183_23, XX, QQ, WW, KK, QX, SHs, RRs, Nat.reduceAdd, Nat.reduceMul, Nat.reduceLeDiff, Nat.reduceEqDiff, List.length_cons, List.length_nil, decide_true, decide_false, Bool.true_and, Bool.and_true, Bool.false_and, Bool.and_false, false_and, and_false, Bool.false_eq_true, Bool.true_eq_false, reduceCtorEq, eq_self, if_true, if_false, true_and, and_true, not_true_eq_false, not_false_eq_true, if_pos, if_neg, z_ite_not, false_or, or_false, true_or, or_true, SWs, swk_0, swk_1, z6, Nat.add_sub_cancel, h]
end TXR
