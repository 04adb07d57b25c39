/-! ===== the parser's states: class and reference ===== -/
def psK (tp : Nat → Nat) (tl m : Nat) : Nat := tkK tp tl (tpo tp tl m)
def psV (tp : Nat → Nat) (tl m : Nat) : Nat := tkV tp tl (tpo tp tl m)
theorem psK_T {tp : Nat → Nat} {tl : Nat} : psK tp tl (tkT tp tl) = 0 := by
  unfold psK tkK
  rw [(tkT_s (tp := tp) (tl := tl)).2.1, if_neg (Nat.lt_irrefl _)]
theorem psK_lt {tp : Nat → Nat} {tl m : Nat} (hm : m ≤ tkT tp tl) (h : psK tp tl m ≠ 0) : m < tkT tp tl := by
  rcases Nat.lt_or_ge m (tkT tp tl) with q | q
  · exact q
  · have e : m = tkT tp tl := by omega
    rw [e] at h; exact absurd psK_T h
theorem wdK_l (t : List Nat) : wdK t < 276 := by
  rcases wd_c t with ⟨w, hw, e⟩ | e
  · rw [wdK_is hw e]; omega
  · rw [e]; decide
theorem psK_b {tp : Nat → Nat} {tl m : Nat} : psK tp tl m < 276 := by
  unfold psK tkK
  have w := wdK_l (txt tp (tpo tp tl m) (rnE ltr tp tl (tpo tp tl m) - tpo tp tl m))
  split
  · split
    · exact w
    · split
      · split <;> omega
      · split
        · rename_i h; have := sg_c h; omega
        · omega
  · omega
theorem psV_b {tp : Nat → Nat} {tl m : Nat} : psV tp tl m ≤ 9999 := by
  unfold psV tkV
  split
  · rename_i h
    obtain ⟨x1, x2, x3, x4⟩ := rnE_s (P := dgt) (tp := tp) (tl := tl) (p := tpo tp tl m) (by omega)
    obtain ⟨n, en⟩ : ∃ n, n = (if rnE dgt tp tl (tpo tp tl m) - tpo tp tl m < 4 then rnE dgt tp tl (tpo tp tl m) - tpo tp tl m else 4) := ⟨_, rfl⟩
    rw [← en]
    have n4 : n ≤ 4 ∧ n ≤ rnE dgt tp tl (tpo tp tl m) - tpo tp tl m := by
      rw [en]; split <;> omega
    have := nmV_le (tp := tp) (p := tpo tp tl m) n (fun k hk => x3 _ (by omega) (by omega))
    have h2 : (10 : Nat) ^ n ≤ 10 ^ 4 := Nat.pow_le_pow_right (by decide) n4.1
    omega
  · omega
theorem rq_1 : ∀ k, k < 276 → (rtk false k = 143 ↔ k = 43) ∧ (rtk false k = 145 ↔ k = 45) ∧ (rtk false k = 142 ↔ k = 42) ∧ (rtk false k = 147 ↔ k = 47) ∧ (rtk false k = 2 ↔ k = 2) := by decide +kernel
theorem rq_2 : ∀ k, k < 276 → (rtk false k = 4 ↔ k = 268) ∧ (rtk false k = 5 ↔ k = 269) ∧ (rtk false k = 6 ↔ k = 270) ∧ (rtk false k = 140 ↔ k = 40) ∧ (rtk false k = 141 ↔ k = 41) := by decide +kernel
theorem rq_3 : ∀ k, k < 276 → (rtk false k = 160 ↔ k = 60) ∧ (rtk false k = 161 ↔ k = 61) ∧ (rtk false k = 162 ↔ k = 62) ∧ (rtk false k = 3 ↔ k = 267) ∧ (rtk false k = 159 ↔ k = 59) ∧ (rtk false k = 0 ↔ k = 0) := by decide +kernel
theorem rq_4 : ∀ k, k < 276 → (41 ≤ rtk false k ∧ rtk false k ≤ 45 ↔ 271 ≤ k) ∧ (271 ≤ k → rtk false k = k - 230) ∧ (20 ≤ rtk false k ∧ rtk false k ≤ 26 ↔ 260 ≤ k ∧ k < 267) ∧ (260 ≤ k → k < 267 → rtk false k = k - 240) ∧ rtk false k < 400 := by decide +kernel
theorem gd_l {α : Type} {a b : List α} {j : Nat} {z : α} (h : j < a.length) : (a ++ b).getD j z = a.getD j z := by
  rw [List.getD_eq_getElem?_getD, List.getD_eq_getElem?_getD, List.getElem?_append_left h]
theorem gd_r {α : Type} {a b : List α} {z : α} : (a ++ b).getD a.length z = b.getD 0 z := by
  rw [List.getD_eq_getElem?_getD, List.getD_eq_getElem?_getD, List.getElem?_append_right (Nat.le_refl _), Nat.sub_self]
theorem segC_app (a b : List (Nat × Nat)) : segC (a ++ b) = segC a ++ segC b := by
  induction a with
  | nil => rfl
  | cons q a ih => rw [List.cons_append, segC, segC, ih, List.append_assoc]
theorem stC_l (q : Nat × Nat) : 1 ≤ (stC q).length := by
  unfold stC
  split
  · exact Nat.le_refl _
  · split
    · exact Nat.succ_le_succ (Nat.zero_le _)
    · exact Nat.le_refl _
theorem segC_l (a : List (Nat × Nat)) : a.length ≤ (segC a).length := by
  induction a with
  | nil => exact Nat.le_refl _
  | cons q a ih => have := stC_l q; rw [List.length_cons, segC, List.length_append]; omega
theorem ak_app (a b : List (Nat × Nat)) (K : List Bool) : ak (a ++ b) K = match ak a K with
    | none => none
    | some K' => ak b K' := by
  induction a generalizing K with
  | nil => rfl
  | cons q a ih =>
    rw [List.cons_append, ak, ak]
    cases ak1 q K with
    | none => rfl
    | some K' => exact ih K'
theorem ak_then {a b : List (Nat × Nat)} {K K' : List Bool} (h : ak a K = some K') : ak (a ++ b) K = ak b K' := by rw [ak_app, h]
theorem segAt_snoc {f : Nat → Int32} {W : List Int32} {x : Int32} (h : segAt f 0 W) : segAt (va_up f W.length x) 0 (W ++ [x]) := by
  intro j hj
  rw [List.length_append, List.length_cons, List.length_nil] at hj
  rw [Nat.zero_add]
  by_cases z : j = W.length
  · subst z; rw [vu_eq, gd_r]; rfl
  · rw [vu_ne z, gd_l (by omega)]
    have := h j (by omega)
    rw [Nat.zero_add] at this; exact this
theorem stpAt_snoc {f : Nat → Int32} {Q : List (Nat × Nat)} {op x : Nat} {v : Int32} (h : stpAt f 0 0 Q) (hv : op = 0 ∨ op = 9 → v = nI x) : stpAt (va_up (va_up f (2 * Q.length) (nI op)) (2 * Q.length + 1) v) 0 0 (Q ++ [(op, x)]) := by
  intro j hj
  rw [List.length_append, List.length_cons, List.length_nil] at hj
  rw [Nat.zero_add, Nat.zero_add]
  by_cases z : j = Q.length
  · subst z
    rw [gd_r, vu_ne (by omega), vu_eq, vu_eq]
    exact ⟨rfl, fun h => hv h⟩
  · rw [gd_l (by omega), vu_ne (by omega), vu_ne (by omega), vu_ne (by omega), vu_ne (by omega)]
    have := h j (by omega)
    rw [Nat.zero_add, Nat.zero_add] at this; exact this
/-! the class -/
def CPs (I : Nat → Nat → Int32) (tp : Nat → Nat) (tl m : Nat) (W : List Int32) : Prop := tl ≤ 400 ∧ I 125 3 = nI (tkT tp tl + 1) ∧ ROWc I tp tl (tkT tp tl + 1) ∧ CURc I tp tl m ∧ m ≤ tkT tp tl ∧ I 129 5 = nI W.length ∧ segAt (I 134) 0 W ∧ W.length ≤ 400
def CFr (I I' : Nat → Nat → Int32) : Prop := (∀ a, a ≠ 125 → a ≠ 129 → a ≠ 134 → I' a = I a) ∧ ∀ k, k ≠ 5 → I' 129 k = I 129 k
def CFl (I I' : Nat → Nat → Int32) (k p : Nat) : Prop := (∀ a, a < 124 ∨ 136 < a → I' a = I a) ∧ I' 124 1 = nI k ∧ I' 124 2 = nI p
theorem CFr_refl (I : Nat → Nat → Int32) : CFr I I := ⟨fun _ _ _ _ => rfl, fun _ _ => rfl⟩
theorem CFr_trans {I I' I'' : Nat → Nat → Int32} (h : CFr I I') (h2 : CFr I' I'') : CFr I I'' := ⟨fun a x y z => (h2.1 a x y z).trans (h.1 a x y z), fun k hk => (h2.2 k hk).trans (h.2 k hk)⟩
theorem CFl_after {I I' I'' : Nat → Nat → Int32} {k p : Nat} (h : CFr I I') (h2 : CFl I' I'' k p) : CFl I I'' k p := ⟨fun a ha => (h2.1 a ha).trans (h.1 a (by omega) (by omega) (by omega)), h2.2⟩
/-- the draft's codes are as many as there is room for -/
def GWk (I : Nat → Nat → Int32) : Prop := ∃ w, w ≤ 400 ∧ I 129 5 = nI w
def CGl (I I' : Nat → Nat → Int32) (k p : Nat) : Prop := CFl I I' k p ∧ GWk I'
theorem CGl_after {I I' I'' : Nat → Nat → Int32} {k p : Nat} (h : CFr I I') (h2 : CGl I' I'' k p) : CGl I I'' k p := ⟨CFl_after h h2.1, h2.2⟩
theorem c_nx {X : Nat × (Nat → Int32)} {d : Nat} {I : Nat → Nat → Int32} {J : Nat → Nat → Int64} {tp : Nat → Nat} {tl m : Nat} {W : List Int32} (hd : 1 ≤ d) (h : CPs I tp tl m W) (hm : m < tkT tp tl) : ∃ I', callF X d 91 [.ref 125] (mk I J) = some (none, mk I' J) ∧ CFr I I' ∧ CPs I' tp tl (m + 1) W := by
  obtain ⟨h1, h2, h3, h4, h5, h6, h7, h9⟩ := h
  obtain ⟨I', e, c, f, g⟩ := c_next (X := X) (d := d) (J := J) hd h2 h1 h3 h5 h4.1
  rw [if_pos hm] at c
  refine ⟨I', e, ⟨fun a x _ _ => f a x, fun k _ => by rw [f 129 (by decide)]⟩, h1, g, fun j hj => ?_, c, by omega, ?_, ?_, h9⟩
  · rw [f 126 (by decide), f 127 (by decide), f 128 (by decide)]; exact h3 j hj
  · rw [f 129 (by decide)]; exact h6
  · rw [f 134 (by decide)]; exact h7
theorem c_wr {X : Nat × (Nat → Int32)} {d : Nat} {I : Nat → Nat → Int32} {J : Nat → Nat → Int64} {tp : Nat → Nat} {tl m : Nat} {W : List Int32} {x : Int32} (hd : 1 ≤ d) (h : CPs I tp tl m W) (l4 : W.length < 400) : ∃ I', callF X d 70 [.ref 129, .int x] (mk I J) = some (none, mk I' J) ∧ CFr I I' ∧ CPs I' tp tl m (W ++ [x]) := by
  obtain ⟨h1, h2, h3, h4, h5, h6, h7, h9⟩ := h
  refine ⟨va_up (va_up I 134 (va_up (I 134) W.length x)) 129 (va_up (I 129) 5 (nI (W.length + 1))), ?_, ⟨fun a a1 a2 a3 => ?_, fun k hk => ?_⟩, h1, ?_, fun j hj => ?_, ?_, h5, ?_, ?_, by rw [List.length_append, List.length_cons, List.length_nil]; omega⟩
  · refine callF_at (by omega) (by decide) (Nat.le_of_ble_eq_true rfl) (fun d _ => ?_)
    show Ev X d 70 0 [.ref 129, .int x] [] ( mk I J) _
    simp (disch := first | omega | assumption | exact rfl) only [U_70_0, U_70_1, U_70_2, XX, QQ, WW, KK, QX, SHs, RRs, Nat.reduceAdd, Nat.reduceMul, Nat.reduceLeDiff, Nat.reduceEqDiff, List.length_cons, List.length_nil, decide_true, decide_false, Bool.true_and, Bool.and_true, Bool.false_and, Bool.and_false, false_and, and_false, Bool.false_eq_true, Bool.true_eq_false, reduceCtorEq, eq_self, if_true, if_false, true_and, and_true, not_true_eq_false, not_false_eq_true, if_pos, if_neg, z_ite_not, false_or, or_false, true_or, or_true, SWs, swk_0, swk_1, h6]
  · rw [vu_ne a2, vu_ne a3]
  · rw [vu_eq, vu_ne hk]
  · rw [vu_ne (by decide), vu_ne (by decide)]; exact h2
  · rw [vu_ne (by decide), vu_ne (by decide), vu_ne (by decide), vu_ne (by decide), vu_ne (by decide), vu_ne (by decide)]; exact h3 j hj
  · unfold CURc; rw [vu_ne (by decide), vu_ne (by decide)]; exact h4
  · rw [vu_eq, vu_eq, List.length_append]; rfl
  · rw [vu_ne (by decide), vu_eq]; exact segAt_snoc h7
theorem c_fl {X : Nat × (Nat → Int32)} {d : Nat} {I : Nat → Nat → Int32} {J : Nat → Nat → Int64} {k p : Nat} (hd : 1 ≤ d) : ∃ I', callF X d 51 [.ref 124, .int (nI k), .int (nI p)] (mk I J) = some (some (.int (nI 0)), mk I' J) ∧ CFl I I' k p := by
  refine ⟨va_up I 124 (va_up (va_up (I 124) 1 (nI k)) 2 (nI p)), ?_, fun a ha => ?_, ?_, ?_⟩
  · refine callF_at (by omega) (by decide) (Nat.le_of_ble_eq_true rfl) (fun d _ => ?_)
    show Ev X d 51 0 [.ref 124, .int (nI k), .int (nI p)] [] ( mk I J) _
    simp (disch := first | omega | assumption | exact rfl) only [U_51_0, XX, QQ, WW, KK, QX, SHs, RRs, Nat.reduceAdd, Nat.reduceMul, Nat.reduceLeDiff, Nat.reduceEqDiff, List.length_cons, List.length_nil, decide_true, decide_false, Bool.true_and, Bool.and_true, Bool.false_and, Bool.and_false, false_and, and_false, Bool.false_eq_true, Bool.true_eq_false, reduceCtorEq, eq_self, if_true, if_false, true_and, and_true, not_true_eq_false, not_false_eq_true, if_pos, if_neg, z_ite_not, false_or, or_false, true_or, or_true, SWs, swk_0, swk_1]
  · rw [vu_ne (by omega)]
  · rw [vu_eq, vu_ne (by decide), vu_eq]
  · rw [vu_eq, vu_eq]
/-- a fault, told while a rule is read -/
theorem c_flG {X : Nat × (Nat → Int32)} {d : Nat} {I : Nat → Nat → Int32} {J : Nat → Nat → Int64} {tp : Nat → Nat} {tl m : Nat} {W : List Int32} {k p : Nat} (hd : 1 ≤ d) (h : CPs I tp tl m W) : ∃ I', callF X d 51 [.ref 124, .int (nI k), .int (nI p)] (mk I J) = some (some (.int (nI 0)), mk I' J) ∧ CGl I I' k p := by
  refine ⟨va_up I 124 (va_up (va_up (I 124) 1 (nI k)) 2 (nI p)), ?_, ⟨fun a ha => ?_, ?_, ?_⟩, W.length, h.2.2.2.2.2.2.2, ?_⟩
  · refine callF_at (by omega) (by decide) (Nat.le_of_ble_eq_true rfl) (fun d _ => ?_)
    show Ev X d 51 0 [.ref 124, .int (nI k), .int (nI p)] [] ( mk I J) _
    simp (disch := first | omega | assumption | exact rfl) only [U_51_0, XX, QQ, WW, KK, QX, SHs, RRs, Nat.reduceAdd, Nat.reduceMul, Nat.reduceLeDiff, Nat.reduceEqDiff, List.length_cons, List.length_nil, decide_true, decide_false, Bool.true_and, Bool.and_true, Bool.false_and, Bool.and_false, false_and, and_false, Bool.false_eq_true, Bool.true_eq_false, reduceCtorEq, eq_self, if_true, if_false, true_and, and_true, not_true_eq_false, not_false_eq_true, if_pos, if_neg, z_ite_not, false_or, or_false, true_or, or_true, SWs, swk_0, swk_1]
  · rw [vu_ne (by omega)]
  · rw [vu_eq, vu_ne (by decide), vu_eq]
  · rw [vu_eq, vu_eq]
  · rw [vu_ne (by decide)]; exact h.2.2.2.2.2.1
/-- what is written behind a fault changes none of what it told -/
theorem c_wrG {X : Nat × (Nat → Int32)} {d : Nat} {I : Nat → Nat → Int32} {J : Nat → Nat → Int64} {I0 : Nat → Nat → Int32} {k p : Nat} {x : Int32} (hd : 1 ≤ d) (h : CGl I0 I k p) : ∃ I', callF X d 70 [.ref 129, .int x] (mk I J) = some (none, mk I' J) ∧ CGl I0 I' k p := by
  obtain ⟨⟨h1, h2, h3⟩, w, h4, h5⟩ := h
  by_cases l4 : w < 400
  · refine ⟨va_up (va_up I 134 (va_up (I 134) w x)) 129 (va_up (I 129) 5 (nI (w + 1))), ?_, ⟨fun a ha => ?_, ?_, ?_⟩, w + 1, by omega, ?_⟩
    · refine callF_at (by omega) (by decide) (Nat.le_of_ble_eq_true rfl) (fun d _ => ?_)
      show Ev X d 70 0 [.ref 129, .int x] [] ( mk I J) _
      simp (disch := first | omega | assumption | exact rfl) only [U_70_0, U_70_1, U_70_2, XX, QQ, WW, KK, QX, SHs, RRs, Nat.reduceAdd, Nat.reduceMul, Nat.reduceLeDiff, Nat.reduceEqDiff, List.length_cons, List.length_nil, decide_true, decide_false, Bool.true_and, Bool.and_true, Bool.false_and, Bool.and_false, false_and, and_false, Bool.false_eq_true, Bool.true_eq_false, reduceCtorEq, eq_self, if_true, if_false, true_and, and_true, not_true_eq_false, not_false_eq_true, if_pos, if_neg, z_ite_not, false_or, or_false, true_or, or_true, SWs, swk_0, swk_1, h5]
    · rw [vu_ne (by omega), vu_ne (by omega)]; exact h1 a ha
    · rw [vu_ne (by decide), vu_ne (by decide)]; exact h2
    · rw [vu_ne (by decide), vu_ne (by decide)]; exact h3
    · rw [vu_eq, vu_eq]
  · refine ⟨I, ?_, ⟨h1, h2, h3⟩, w, h4, h5⟩
    refine callF_at (by omega) (by decide) (Nat.le_of_ble_eq_true rfl) (fun d _ => ?_)
    show Ev X d 70 0 [.ref 129, .int x] [] ( mk I J) _
    simp (disch := first | omega | assumption | exact rfl) only [U_70_0, U_70_2, XX, QQ, WW, KK, QX, SHs, RRs, Nat.reduceAdd, Nat.reduceMul, Nat.reduceLeDiff, Nat.reduceEqDiff, List.length_cons, List.length_nil, decide_true, decide_false, Bool.true_and, Bool.and_true, Bool.false_and, Bool.and_false, false_and, and_false, Bool.false_eq_true, Bool.true_eq_false, reduceCtorEq, eq_self, if_true, if_false, true_and, and_true, not_true_eq_false, not_false_eq_true, if_pos, if_neg, z_ite_not, false_or, or_false, true_or, or_true, SWs, swk_0, swk_1, h5, l4]
/-! the reference -/
def RPs (I : Nat → Nat → Int32) (tp : Nat → Nat) (tl m : Nat) (Q : List (Nat × Nat)) (o : Nat) : Prop := RTp I tp tl ∧ (∃ w, 6 ≤ w ∧ w < 9 ∧ I 177 9 = nI w) ∧ RCur I tp tl false m ∧ m ≤ tkT tp tl ∧ I 177 11 = nI Q.length ∧ stpAt (I 181) 0 0 Q ∧ I 177 20 = nI o
def RFr (I I' : Nat → Nat → Int32) : Prop := (∀ a, a ≠ 177 → a ≠ 181 → I' a = I a) ∧ ∀ k, k ≠ 11 → k ≠ 13 → k ≠ 14 → k ≠ 15 → k ≠ 16 → k ≠ 18 → k ≠ 20 → I' 177 k = I 177 k
def RFl (I I' : Nat → Nat → Int32) (k p : Nat) : Prop := (∀ a, a ≠ 177 → a ≠ 181 → I' a = I a) ∧ (∀ k, k ≠ 11 → k ≠ 13 → k ≠ 14 → k ≠ 15 → k ≠ 16 → k ≠ 17 → k ≠ 18 → k ≠ 20 → I' 177 k = I 177 k) ∧ I' 177 17 = nI k ∧ I' 177 18 = nI p
theorem RFr_refl (I : Nat → Nat → Int32) : RFr I I := ⟨fun _ _ _ => rfl, fun _ _ _ _ _ _ _ _ => rfl⟩
theorem RFr_trans {I I' I'' : Nat → Nat → Int32} (h : RFr I I') (h2 : RFr I' I'') : RFr I I'' := ⟨fun a x y => (h2.1 a x y).trans (h.1 a x y), fun k a b c d e f g => (h2.2 k a b c d e f g).trans (h.2 k a b c d e f g)⟩
theorem RFl_after {I I' I'' : Nat → Nat → Int32} {k p : Nat} (h : RFr I I') (h2 : RFl I' I'' k p) : RFl I I'' k p := ⟨fun a x y => (h2.1 a x y).trans (h.1 a x y), fun k a b c d e _ f g => (h2.2.1 k a b c d e ‹_› f g).trans (h.2 k a b c d e f g), h2.2.2⟩
theorem r_nx {X : Nat × (Nat → Int32)} {d : Nat} {I : Nat → Nat → Int32} {J : Nat → Nat → Int64} {tp : Nat → Nat} {tl m o : Nat} {Q : List (Nat × Nat)} (hd : 14 ≤ d) (h : RPs I tp tl m Q o) (hm : m < tkT tp tl) : ∃ I', callF X d 168 [.ref 177] (mk I J) = some (none, mk I' J) ∧ RFr I I' ∧ RPs I' tp tl (m + 1) Q o := by
  obtain ⟨h1, ⟨w, w1, w2, w3⟩, h3, h4, h5, h6, h8⟩ := h
  have ew : decide (w < 6) = false := decide_eq_false (by omega)
  rw [← ew] at h3
  obtain ⟨g, e, c, f⟩ := r_nextT (X := X) (d := d) (J := J) hd h1 w3 w2 h3 h4
  rw [if_pos hm, ew] at c
  refine ⟨_, e, ⟨fun a a1 a2 => vu_ne a1, fun k k1 k2 k3 k4 k5 k6 k7 => by rw [vu_eq]; exact f k k2 k3 k4 k5⟩, ⟨h1.1, ?_, fun i hi => ?_⟩, ⟨w, w1, w2, ?_⟩, c, by omega, ?_, ?_, ?_⟩
  · rw [vu_eq, f _ (by decide) (by decide) (by decide) (by decide)]; exact h1.2.1
  · rw [vu_ne (by decide)]; exact h1.2.2 i hi
  · rw [vu_eq, f _ (by decide) (by decide) (by decide) (by decide)]; exact w3
  · rw [vu_eq, f _ (by decide) (by decide) (by decide) (by decide)]; exact h5
  · rw [vu_ne (by decide)]; exact h6
  · rw [vu_eq, f _ (by decide) (by decide) (by decide) (by decide)]; exact h8
theorem r_lay0 {X : Nat × (Nat → Int32)} {d : Nat} {I : Nat → Nat → Int32} {J : Nat → Nat → Int64} {tp : Nat → Nat} {tl m o op x : Nat} {v : Int32} {Q : List (Nat × Nat)} (hd : 1 ≤ d) (h : RPs I tp tl m Q o) (l6 : Q.length < 400) (hv : op = 0 ∨ op = 9 → v = nI x) : ∃ I', callF X d 172 [.ref 177, .int (nI op), .int v] (mk I J) = some (none, mk I' J) ∧ RFr I I' ∧ RPs I' tp tl m (Q ++ [(op, x)]) o := by
  obtain ⟨h1, ⟨w, w1, w2, w3⟩, h3, h4, h5, h6, h8⟩ := h
  have h400 := h1.1
  have l4 : 2 * Q.length + 1 < 820 := by omega
  have l5 : 2 * Q.length < 820 := by omega
  refine ⟨va_up (va_up I 181 (va_up (va_up (I 181) (2 * Q.length) (nI op)) (2 * Q.length + 1) v)) 177 (va_up (I 177) 11 (nI (Q.length + 1))), ?_, ⟨fun a a1 a2 => ?_, fun k k1 _ _ _ _ _ _ => ?_⟩, ⟨h400, ?_, fun i hi => ?_⟩, ⟨w, w1, w2, ?_⟩, ?_, h4, ?_, ?_, ?_⟩
  · refine callF_at (by omega) (by decide) (Nat.le_of_ble_eq_true rfl) (fun d _ => ?_)
    show Ev X d 172 0 [.ref 177, .int (nI op), .int v] [] ( mk I J) _
    simp (disch := first | omega | assumption | exact rfl) only [U_172_0, XX, QQ, WW, KK, QX, SHs, RRs, Nat.reduceAdd, Nat.reduceMul, Nat.reduceLeDiff, Nat.reduceEqDiff, List.length_cons, List.length_nil, decide_true, decide_false, Bool.true_and, Bool.and_true, Bool.false_and, Bool.and_false, false_and, and_false, Bool.false_eq_true, Bool.true_eq_false, reduceCtorEq, eq_self, if_true, if_false, true_and, and_true, not_true_eq_false, not_false_eq_true, if_pos, if_neg, z_ite_not, false_or, or_false, true_or, or_true, SWs, swk_0, swk_1, h5]
  · rw [vu_ne a1, vu_ne a2]
  · rw [vu_eq, vu_ne k1]
  · rw [vu_eq, vu_ne (by decide)]; exact h1.2.1
  · rw [vu_ne (by decide), vu_ne (by decide)]; exact h1.2.2 i hi
  · rw [vu_eq, vu_ne (by decide)]; exact w3
  · unfold RCur; rw [vu_eq, vu_ne (by decide), vu_ne (by decide), vu_ne (by decide), vu_ne (by decide)]; exact h3
  · rw [vu_eq, vu_eq, List.length_append]; rfl
  · rw [vu_ne (by decide), vu_eq]; exact stpAt_snoc h6 hv
  · rw [vu_eq, vu_ne (by decide)]; exact h8
theorem r_bad {X : Nat × (Nat → Int32)} {d : Nat} {I : Nat → Nat → Int32} {J : Nat → Nat → Int64} {k p : Nat} (hd : 1 ≤ d) (hp : I 177 15 = nI p) : ∃ I', callF X d 169 [.ref 177, .int (nI k)] (mk I J) = some (some (.int (nI 0)), mk I' J) ∧ RFl I I' k p := by
  refine ⟨va_up I 177 (va_up (va_up (I 177) 17 (nI k)) 18 (nI p)), ?_, fun a a1 a2 => vu_ne a1, fun j j1 j2 j3 j4 j5 j6 j7 j8 => ?_, ?_, ?_⟩
  · refine callF_at (by omega) (by decide) (Nat.le_of_ble_eq_true rfl) (fun d _ => ?_)
    show Ev X d 169 0 [.ref 177, .int (nI k)] [] ( mk I J) _
    simp (disch := first | omega | assumption | exact rfl) only [U_169_0, XX, QQ, WW, KK, QX, SHs, RRs, Nat.reduceAdd, Nat.reduceMul, Nat.reduceLeDiff, Nat.reduceEqDiff, List.length_cons, List.length_nil, decide_true, decide_false, Bool.true_and, Bool.and_true, Bool.false_and, Bool.and_false, false_and, and_false, Bool.false_eq_true, Bool.true_eq_false, reduceCtorEq, eq_self, if_true, if_false, true_and, and_true, not_true_eq_false, not_false_eq_true, if_pos, if_neg, z_ite_not, false_or, or_false, true_or, or_true, SWs, swk_0, swk_1, hp]
  · rw [vu_eq, vu_ne j7, vu_ne j6]
  · rw [vu_eq, vu_ne (by decide), vu_eq]
  · rw [vu_eq, vu_eq]
theorem CPs_k {I : Nat → Nat → Int32} {tp : Nat → Nat} {tl m : Nat} {W : List Int32} (h : CPs I tp tl m W) : I 125 5 = nI (psK tp tl m) ∧ I 125 6 = nI (tpo tp tl m) ∧ I 125 7 = nI (psV tp tl m) := h.2.2.2.1.2
theorem RPs_k {I : Nat → Nat → Int32} {tp : Nat → Nat} {tl m o : Nat} {Q : List (Nat × Nat)} (h : RPs I tp tl m Q o) : I 177 14 = nI (rtk false (psK tp tl m)) ∧ I 177 15 = nI (tpo tp tl m) ∧ (psK tp tl m = 2 → I 177 16 = nI (psV tp tl m)) := h.2.2.1.2
