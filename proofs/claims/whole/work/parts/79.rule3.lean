/-! ===== a rule's condition: the class ===== -/
section RUC
variable {X : Nat × (Nat → Int32)} {d : Nat} {I : Nat → Nat → Int32} {J : Nat → Nat → Int64} {R e pos : Nat} {s : Int32} {f : Nat → Int32} {S : List Int32} {v : Option Value}
/-- the class is at pos, with S on its stack, and comes to v -/
def At74 (X : Nat × (Nat → Int32)) (d : Nat) (I : Nat → Nat → Int32) (J : Nat → Nat → Int64) (R : Nat) (s : Int32) (e pos : Nat) (S : List Int32) (v : Option Value) : Prop := ∀ f, stk f S → ∀ u4 u5 u6 : Value, ∃ f' m, Ev X d 74 1 [.ref R, .int s, .int (nI e), .int (nI pos), u4, u5, u6] [] (mk (pS I R f S.length) J) (v, mk (pS I R f' m) J)
theorem negneg {c : Nat} : -(-(nI c)) = nI c := Int32.neg_neg
theorem n_neg {c : Nat} (h : 0 < c) (h2 : c < 400) : -(nI c) < 0 := by
  have : ∀ c, c < 400 → 0 < c → -(nI c) < 0 := by decide +kernel
  exact this c h2 h
theorem n_271 {c : Nat} (h2 : c < 271) : (decide (0 ≤ nI c - nI 271) && decide (nI c - nI 271 < nI 5)) = false := by
  have : ∀ c, c < 271 → (decide (0 ≤ nI c - nI 271) && decide (nI c - nI 271 < nI 5)) = false := by decide +kernel
  exact this c h2
theorem a_num {m : Nat} (hd : 2 ≤ d) (hR : RLA R) (hp : pos < e) (he : e ≤ 400) (hc : I (R + 5) pos = nI m) (hm : m ≤ 9999) (hS : S.length < 32) (hk : At74 X d I J R s e (pos + 1) (nI m :: S) v) : At74 X d I J R s e pos S v := by
  intro f hf u4 u5 u6
  obtain ⟨f', m', hE⟩ := hk _ (stk_push (x := nI m) hf) (.int (nI m)) (.int (-(nI m) - nI 271)) u6
  refine ⟨f', m', ?_⟩
  have p5 : pS I R f S.length (R + 5) = I (R + 5) := pS_fr (by omega) (by omega)
  have pu := c_push (X := X) (d := d) (I := I) (J := J) (f := f) (x := nI m) (by omega) hR hS
  obtain ⟨r1, r2, r3, r4, r5, r6, r7, _⟩ := hR
  have h400 : pos < 400 := by omega
  obtain ⟨P, eP⟩ : ∃ P, P = pS I R f S.length := ⟨_, rfl⟩
  rw [← eP] at p5 pu
  rw [← eP]
  rw [U_74_1]
  simp (disch := first | omega | assumption | exact rfl) only [U_74_2, U_74_3, U_74_4, U_74_10, XX, QQ, WW, KK, QX, SHs, RRs, Nat.reduceAdd, Nat.reduceMul, Nat.reduceLeDiff, Nat.reduceEqDiff, List.length_cons, List.length_nil, decide_true, decide_false, Bool.true_and, Bool.and_true, Bool.false_and, Bool.and_false, false_and, and_false, Bool.false_eq_true, Bool.true_eq_false, reduceCtorEq, eq_self, if_true, if_false, true_and, and_true, not_true_eq_false, not_false_eq_true, if_pos, if_neg, z_ite_not, false_or, or_false, true_or, or_true, SWs, swk_0, swk_1, r1, r2, r5, p5, hc, pu]
  exact hE
theorem a_var {o : Nat} {x : Int32} (hd : 2 ≤ d) (hR : RLA R) (hp : pos < e) (he : e ≤ 400) (hc : I (R + 5) pos = -(nI (271 + o))) (ho : o < 5) (hx : I (R + 6) o = x) (hS : S.length < 32) (hk : At74 X d I J R s e (pos + 1) (x :: S) v) : At74 X d I J R s e pos S v := by
  intro f hf u4 u5 u6
  obtain ⟨f', m', hE⟩ := hk _ (stk_push (x := x) hf) (.int (-(nI (271 + o)))) (.int (nI o)) u6
  refine ⟨f', m', ?_⟩
  have p5 : pS I R f S.length (R + 5) = I (R + 5) := pS_fr (by omega) (by omega)
  have p6 : pS I R f S.length (R + 6) = I (R + 6) := pS_fr (by omega) (by omega)
  have pu := c_push (X := X) (d := d) (I := I) (J := J) (f := f) (x := x) (by omega) hR hS
  obtain ⟨r1, r2, r3, r4, r5, r6, r7, _⟩ := hR
  have h400 : pos < 400 := by omega
  have z1 := n_neg (c := 271 + o) (by omega) (by omega)
  have z2 : nI (271 + o) - nI 271 = nI o := by
    have : ∀ o, o < 5 → nI (271 + o) - nI 271 = nI o := by decide +kernel
    exact this o ho
  obtain ⟨cc, ecc⟩ : ∃ cc, cc = 271 + o := ⟨_, rfl⟩
  rw [← ecc] at hc z1 z2 hE
  obtain ⟨P, eP⟩ : ∃ P, P = pS I R f S.length := ⟨_, rfl⟩
  rw [← eP] at p5 pu p6
  rw [← eP]
  rw [U_74_1]
  simp (disch := first | omega | assumption | exact rfl) only [U_74_2, U_74_3, U_74_5, U_74_6, U_74_10, XX, QQ, WW, KK, QX, SHs, RRs, Nat.reduceAdd, Nat.reduceMul, Nat.reduceLeDiff, Nat.reduceEqDiff, List.length_cons, List.length_nil, decide_true, decide_false, Bool.true_and, Bool.and_true, Bool.false_and, Bool.and_false, false_and, and_false, Bool.false_eq_true, Bool.true_eq_false, reduceCtorEq, eq_self, if_true, if_false, true_and, and_true, not_true_eq_false, not_false_eq_true, if_pos, if_neg, z_ite_not, false_or, or_false, true_or, or_true, SWs, swk_0, swk_1, r1, r2, r3, r5, r6, p5, p6, hc, hx, z1, negneg, z2, s_isOf, pu]
  exact hE
theorem a_not {y : Int32} (hd : 2 ≤ d) (hR : RLA R) (hp : pos < e) (he : e ≤ 400) (hc : I (R + 5) pos = -(nI 270)) (hS : S.length < 32) (hk : At74 X d I J R s e (pos + 1) ((nI 1 - y) :: S) v) : At74 X d I J R s e pos (y :: S) v := by
  intro f hf u4 u5 u6
  obtain ⟨t1, t2⟩ := stk_top hf
  obtain ⟨f', m', hE⟩ := hk _ (stk_push (x := nI 1 - y) t2) (.int (-(nI 270))) (.int (nI 270 - nI 271)) u6
  refine ⟨f', m', ?_⟩
  rw [List.length_cons]
  have p5 : pS I R f (S.length + 1) (R + 5) = I (R + 5) := pS_fr (by omega) (by omega)
  have po := c_pop (X := X) (d := d) (I := I) (J := J) (f := f) (n := S.length) (by omega) hR (by omega)
  rw [t1] at po
  have pu := c_push (X := X) (d := d) (I := I) (J := J) (f := f) (x := nI 1 - y) (by omega) hR hS
  obtain ⟨r1, r2, r3, r4, r5, r6, r7, _⟩ := hR
  have h400 : pos < 400 := by omega
  have z1 := n_neg (c := 270) (by omega) (by omega)
  have z5 := n_271 (c := 270) (by omega)
  obtain ⟨P, eP⟩ : ∃ P, P = pS I R f (S.length + 1) := ⟨_, rfl⟩
  rw [← eP] at p5 po
  rw [← eP]
  rw [U_74_1]
  simp (disch := first | omega | assumption | exact rfl) only [U_74_2, U_74_3, U_74_5, U_74_7, U_74_8, U_74_10, XX, QQ, WW, KK, QX, SHs, RRs, Nat.reduceAdd, Nat.reduceMul, Nat.reduceLeDiff, Nat.reduceEqDiff, List.length_cons, List.length_nil, decide_true, decide_false, Bool.true_and, Bool.and_true, Bool.false_and, Bool.and_false, false_and, and_false, Bool.false_eq_true, Bool.true_eq_false, reduceCtorEq, eq_self, if_true, if_false, true_and, and_true, not_true_eq_false, not_false_eq_true, if_pos, if_neg, z_ite_not, false_or, or_false, true_or, or_true, SWs, swk_0, swk_1, r1, r2, r5, p5, hc, z1, negneg, z5, s_isOf, po, pu]
  exact hE
theorem a_bin {c : Nat} {x y z : Int32} (hd : 2 ≤ d) (hR : RLA R) (hp : pos < e) (he : e ≤ 400) (hc : I (R + 5) pos = -(nI c)) (c0 : 0 < c) (c1 : c < 270) (hj : ∀ M, callF X d 77 [.int (nI c), .int x, .int y] M = some (some (.int z), M)) (hS : S.length < 31) (hk : At74 X d I J R s e (pos + 1) (z :: S) v) : At74 X d I J R s e pos (y :: x :: S) v := by
  intro f hf u4 u5 u6
  obtain ⟨t1, t2⟩ := stk_top hf
  obtain ⟨t3, t4⟩ := stk_top t2
  obtain ⟨f', m', hE⟩ := hk _ (stk_push (x := z) t4) (.int (-(nI c))) (.int (nI c - nI 271)) (.int y)
  refine ⟨f', m', ?_⟩
  rw [List.length_cons] at t1
  rw [List.length_cons, List.length_cons]
  have p5 : pS I R f (S.length + 1 + 1) (R + 5) = I (R + 5) := pS_fr (by omega) (by omega)
  have po := c_pop (X := X) (d := d) (I := I) (J := J) (f := f) (n := S.length + 1) (by omega) hR (by omega)
  have po2 := c_pop (X := X) (d := d) (I := I) (J := J) (f := f) (n := S.length) (by omega) hR (by omega)
  rw [t1] at po
  rw [t3] at po2
  have pu := c_push (X := X) (d := d) (I := I) (J := J) (f := f) (x := z) (n := S.length) (by omega) hR (by omega)
  obtain ⟨r1, r2, r3, r4, r5, r6, r7, _⟩ := hR
  have h400 : pos < 400 := by omega
  have z1 := n_neg c0 (by omega)
  have z5 := n_271 (c := c) (by omega)
  obtain ⟨P, eP⟩ : ∃ P, P = pS I R f (S.length + 1 + 1) := ⟨_, rfl⟩
  rw [← eP] at p5 po
  rw [← eP]
  rw [U_74_1]
  simp (disch := first | omega | assumption | exact rfl) only [U_74_2, U_74_3, U_74_5, U_74_7, U_74_9, U_74_10, XX, QQ, WW, KK, QX, SHs, RRs, Nat.reduceAdd, Nat.reduceMul, Nat.reduceLeDiff, Nat.reduceEqDiff, List.length_cons, List.length_nil, decide_true, decide_false, Bool.true_and, Bool.and_true, Bool.false_and, Bool.and_false, false_and, and_false, Bool.false_eq_true, Bool.true_eq_false, reduceCtorEq, eq_self, if_true, if_false, true_and, and_true, not_true_eq_false, not_false_eq_true, if_pos, if_neg, z_ite_not, false_or, or_false, true_or, or_true, SWs, swk_0, swk_1, r1, r2, r5, p5, hc, z1, negneg, z5, s_isOf, po, po2, hj, pu]
  exact hE
end RUC
