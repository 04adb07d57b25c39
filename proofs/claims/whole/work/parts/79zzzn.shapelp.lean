/-! ===== all lines of a shape ===== -/
def RKq (I I' : Nat → Nat → Int32) : Prop := (∀ a, a ≠ 177 → a ≠ 180 → a ≠ 181 → a ≠ 185 → I' a = I a) ∧ ∀ k, k < 10 ∨ k = 12 ∨ k = 17 ∨ k = 19 ∨ 20 < k → I' 177 k = I 177 k
def RKk (I I' : Nat → Nat → Int32) (kk p : Nat) : Prop := (∀ a, a ≠ 177 → a ≠ 180 → a ≠ 181 → a ≠ 185 → I' a = I a) ∧ (∀ k, k < 10 ∨ k = 12 ∨ k = 19 ∨ 20 < k → I' 177 k = I 177 k) ∧ I' 177 17 = nI kk ∧ I' 177 18 = nI p
theorem RKq_q {I I' : Nat → Nat → Int32} (h : RHq I I') : RKq I I' := ⟨h.1, fun k hk => h.2 k (by omega)⟩
theorem RKk_k {I I' : Nat → Nat → Int32} {kk p : Nat} (h : RHk I I' kk p) : RKk I I' kk p := ⟨h.1, fun k hk => h.2.1 k (by omega), h.2.2⟩
theorem RKq_refl (I : Nat → Nat → Int32) : RKq I I := ⟨fun _ _ _ _ _ => rfl, fun _ _ => rfl⟩
theorem RKq_t {I I' I'' : Nat → Nat → Int32} (h : RKq I I') (h2 : RKq I' I'') : RKq I I'' := ⟨fun a x y z v => (h2.1 a x y z v).trans (h.1 a x y z v), fun k hk => (h2.2 k hk).trans (h.2 k hk)⟩
theorem RKk_t {I I' I'' : Nat → Nat → Int32} {kk p : Nat} (h : RKq I I') (h2 : RKk I' I'' kk p) : RKk I I'' kk p := ⟨fun a x y z v => (h2.1 a x y z v).trans (h.1 a x y z v), fun k hk => (h2.2.1 k hk).trans (h.2 k (by omega)), h2.2.2⟩
theorem RKq_10 {I : Nat → Nat → Int32} {v : Int32} : RKq I (va_up I 177 (va_up (I 177) 10 v)) := ⟨fun a x _ _ _ => vu_ne x, fun k hk => by rw [vu_eq, vu_ne (by omega)]⟩
theorem RKk_10 {I I' : Nat → Nat → Int32} {kk p : Nat} {v : Int32} (h : RKk I I' kk p) : RKk I (va_up I' 177 (va_up (I' 177) 10 v)) kk p := ⟨fun a x y z w => by rw [vu_ne x]; exact h.1 a x y z w, fun k hk => by rw [vu_eq, vu_ne (by omega)]; exact h.2.1 k hk, by rw [vu_eq, vu_ne (by decide)]; exact h.2.2.1, by rw [vu_eq, vu_ne (by decide)]; exact h.2.2.2⟩
theorem RQs_10 {I : Nat → Nat → Int32} {tp : Nat → Nat} {tl m : Nat} {v : Int32} (h : RQs I tp tl m) : RQs (va_up I 177 (va_up (I 177) 10 v)) tp tl m := by
  obtain ⟨h1, ⟨w, w2, w3⟩, h3, h4⟩ := h
  have e : ∀ k, k ≠ 10 → va_up I 177 (va_up (I 177) 10 v) 177 k = I 177 k := fun k hk => by rw [vu_eq, vu_ne hk]
  refine ⟨⟨h1.1, ?_, fun i hi => ?_⟩, ⟨w, w2, ?_⟩, ?_, h4⟩
  · rw [e _ (by decide)]; exact h1.2.1
  · rw [vu_ne (by decide)]; exact h1.2.2 i hi
  · rw [e _ (by decide)]; exact w3
  · unfold RCur; rw [e 13 (by decide), e 14 (by decide), e 15 (by decide), e 16 (by decide)]; exact h3
theorem rks_0 {k : Nat} (h : k < 276) (h2 : k ≠ 0) : ¬ rtk true k = 0 := fun z => h2 ((rs_1 k h).2.2.1.mp z)
section SLP
variable {X : Nat × (Nat → Int32)} {tp : Nat → Nat} {tl : Nat}
def CTf (X : Nat × (Nat → Int32)) (tp : Nat → Nat) (tl m L F k p : Nat) : Prop := ∀ (d : Nat) (I : Nat → Nat → Int32) (J : Nat → Nat → Int64) (u : Value) (v : Int32), 4 ≤ d → CQs I tp tl m → J 124 3 = lN F → ∃ I' J', CFl I I' k p ∧ (∀ a, a ≠ 124 → J' a = J a) ∧ Ev X d 54 1 [.ref 124, u, .int v, .int (nI L)] [] (mk I J) (some (.int (nI 0)), mk I' J')
def CTt (X : Nat × (Nat → Int32)) (tp : Nat → Nat) (tl m L F F' : Nat) : Prop := ∀ (d : Nat) (I : Nat → Nat → Int32) (J : Nat → Nat → Int64) (u : Value) (v : Int32), 4 ≤ d → CQs I tp tl m → J 124 3 = lN F → ∃ I' J', CFr I I' ∧ (∀ a, a ≠ 124 → J' a = J a) ∧ J' 124 3 = lN F' ∧ Ev X d 54 1 [.ref 124, u, .int v, .int (nI L)] [] (mk I J) (some (.int (nI 1)), mk I' J')
def RTf (X : Nat × (Nat → Int32)) (tp : Nat → Nat) (tl m L F k p : Nat) : Prop := ∀ (d : Nat) (I : Nat → Nat → Int32) (J : Nat → Nat → Int64) (w : Nat), 16 ≤ d → w < 6 → RQs I tp tl m → GR I F → I 177 10 = nI L → ∃ I', RKk I I' k p ∧ ∀ r, Ev X d 183 15 [.ref 177, .int (nI w), .int (nI 0)] [] (mk I' J) r → Ev X d 183 6 [.ref 177, .int (nI w), .int (nI 1)] [] (mk I J) r
def RTt (X : Nat × (Nat → Int32)) (tp : Nat → Nat) (tl m L F F' : Nat) : Prop := ∀ (d : Nat) (I : Nat → Nat → Int32) (J : Nat → Nat → Int64) (w : Nat), 16 ≤ d → w < 6 → RQs I tp tl m → GR I F → I 177 10 = nI L → ∃ I', RKq I I' ∧ GR I' F' ∧ ∀ r, Ev X d 183 15 [.ref 177, .int (nI w), .int (nI 1)] [] (mk I' J) r → Ev X d 183 6 [.ref 177, .int (nI w), .int (nI 1)] [] (mk I J) r
theorem ctt_0 {m L F : Nat} (hL : L ≤ 32) (k0 : psK tp tl m = 0) : CTt X tp tl m L F F := by
  intro d I J u v hd h hJ
  obtain ⟨k5, _, _⟩ := CQs_k h
  rw [k0] at k5
  refine ⟨I, J, CFr_refl I, fun _ _ => rfl, hJ, ?_⟩
  simp (disch := first | omega | assumption | exact rfl) only [U_54_1, U_54_2, U_54_6, XX, QQ, WW, KK, QX, SHs, RRs, Nat.reduceAdd, Nat.reduceMul, Nat.reduceLeDiff, Nat.reduceEqDiff, List.length_cons, List.length_nil, decide_true, decide_false, Bool.true_and, Bool.and_true, Bool.false_and, Bool.and_false, false_and, and_false, Bool.false_eq_true, Bool.true_eq_false, reduceCtorEq, eq_self, if_true, if_false, true_and, and_true, not_true_eq_false, not_false_eq_true, if_pos, if_neg, z_ite_not, false_or, or_false, true_or, or_true, SWs, swk_0, swk_1, k5]
theorem rtt_0 {m L F : Nat} (k0 : psK tp tl m = 0) : RTt X tp tl m L F F := by
  intro d I J w hd w1 h hG h10
  obtain ⟨k5, _, _⟩ := RQs_k h
  rw [k0, show rtk true 0 = 0 by decide] at k5
  refine ⟨I, RKq_refl I, hG, fun r Hr => ?_⟩
  simp (disch := first | omega | assumption | exact rfl) only [U_183_6, U_183_7, XX, QQ, WW, KK, QX, SHs, RRs, Nat.reduceAdd, Nat.reduceMul, Nat.reduceLeDiff, Nat.reduceEqDiff, List.length_cons, List.length_nil, decide_true, decide_false, Bool.true_and, Bool.and_true, Bool.false_and, Bool.and_false, false_and, and_false, Bool.false_eq_true, Bool.true_eq_false, reduceCtorEq, eq_self, if_true, if_false, true_and, and_true, not_true_eq_false, not_false_eq_true, if_pos, if_neg, z_ite_not, false_or, or_false, true_or, or_true, SWs, swk_0, swk_1, k5]
  exact Hr
theorem ctf_1 {m L F k p : Nat} (hL : L ≤ 32) (k0 : psK tp tl m ≠ 0) (h1 : CSf X tp tl m L F k p) : CTf X tp tl m L F k p := by
  intro d I J u v hd h hJ
  have kb := psK_b (tp := tp) (tl := tl) (m := m)
  obtain ⟨k5, _, _⟩ := CQs_k h
  obtain ⟨I1, J1, e1, f1, g1⟩ := h1 d I J hd h hJ
  refine ⟨I1, J1, f1, g1, ?_⟩
  simp (disch := first | omega | assumption | exact rfl) only [U_54_1, U_54_2, U_54_3, U_54_4, XX, QQ, WW, KK, QX, SHs, RRs, Nat.reduceAdd, Nat.reduceMul, Nat.reduceLeDiff, Nat.reduceEqDiff, List.length_cons, List.length_nil, decide_true, decide_false, Bool.true_and, Bool.and_true, Bool.false_and, Bool.and_false, false_and, and_false, Bool.false_eq_true, Bool.true_eq_false, reduceCtorEq, eq_self, if_true, if_false, true_and, and_true, not_true_eq_false, not_false_eq_true, if_pos, if_neg, z_ite_not, false_or, or_false, true_or, or_true, SWs, swk_0, swk_1, k5, k0, e1]
theorem ctf_2 {m L F F1 k p m1 : Nat} (hL : L < 32) (k0 : psK tp tl m ≠ 0) (h1 : CSt X tp tl m L F m1 F1) (h2 : CTf X tp tl m1 (L + 1) F1 k p) : CTf X tp tl m L F k p := by
  intro d I J u v hd h hJ
  have kb := psK_b (tp := tp) (tl := tl) (m := m)
  obtain ⟨k5, _, _⟩ := CQs_k h
  obtain ⟨I1, J1, e1, f1, g1, j1, s1⟩ := h1 d I J hd h hJ
  obtain ⟨I2, J2, f2, g2, E⟩ := h2 d I1 J1 u v hd s1 j1
  refine ⟨I2, J2, CFl_after f1 f2, fun a ha => (g2 a ha).trans (g1 a ha), ?_⟩
  rw [U_54_1]
  simp (disch := first | omega | assumption | exact rfl) only [U_54_2, U_54_3, U_54_5, XX, QQ, WW, KK, QX, SHs, RRs, Nat.reduceAdd, Nat.reduceMul, Nat.reduceLeDiff, Nat.reduceEqDiff, List.length_cons, List.length_nil, decide_true, decide_false, Bool.true_and, Bool.and_true, Bool.false_and, Bool.and_false, false_and, and_false, Bool.false_eq_true, Bool.true_eq_false, reduceCtorEq, eq_self, if_true, if_false, true_and, and_true, not_true_eq_false, not_false_eq_true, if_pos, if_neg, z_ite_not, false_or, or_false, true_or, or_true, SWs, swk_0, swk_1, k5, k0, e1]
  exact E
theorem ctt_2 {m L F F1 F' m1 : Nat} (hL : L < 32) (k0 : psK tp tl m ≠ 0) (h1 : CSt X tp tl m L F m1 F1) (h2 : CTt X tp tl m1 (L + 1) F1 F') : CTt X tp tl m L F F' := by
  intro d I J u v hd h hJ
  have kb := psK_b (tp := tp) (tl := tl) (m := m)
  obtain ⟨k5, _, _⟩ := CQs_k h
  obtain ⟨I1, J1, e1, f1, g1, j1, s1⟩ := h1 d I J hd h hJ
  obtain ⟨I2, J2, f2, g2, j2, E⟩ := h2 d I1 J1 u v hd s1 j1
  refine ⟨I2, J2, CFr_trans f1 f2, fun a ha => (g2 a ha).trans (g1 a ha), j2, ?_⟩
  rw [U_54_1]
  simp (disch := first | omega | assumption | exact rfl) only [U_54_2, U_54_3, U_54_5, XX, QQ, WW, KK, QX, SHs, RRs, Nat.reduceAdd, Nat.reduceMul, Nat.reduceLeDiff, Nat.reduceEqDiff, List.length_cons, List.length_nil, decide_true, decide_false, Bool.true_and, Bool.and_true, Bool.false_and, Bool.and_false, false_and, and_false, Bool.false_eq_true, Bool.true_eq_false, reduceCtorEq, eq_self, if_true, if_false, true_and, and_true, not_true_eq_false, not_false_eq_true, if_pos, if_neg, z_ite_not, false_or, or_false, true_or, or_true, SWs, swk_0, swk_1, k5, k0, e1]
  exact E
theorem rtf_1 {m L F k p : Nat} (hL : L ≤ 32) (k0 : psK tp tl m ≠ 0) (h1 : RSf X tp tl m L F k p) : RTf X tp tl m L F k p := by
  intro d I J w hd w1 h hG h10
  have kb := psK_b (tp := tp) (tl := tl) (m := m)
  obtain ⟨k5, _, _⟩ := RQs_k h
  have z0 := rks_0 kb k0
  have zb := (rs_1 _ kb).2.2.2.2.2
  obtain ⟨I1, e1, f1⟩ := h1 d I J hd h hG h10
  have g10 : I1 177 10 = nI L := by rw [f1.2.1 10 (by omega)]; exact h10
  refine ⟨_, RKk_10 (v := nI L) (RKk_k f1), fun r Hr => ?_⟩
  rw [U_183_6]
  simp (disch := first | omega | assumption | exact rfl) only [U_183_6, U_183_7, U_183_8, U_183_9, U_183_11, U_183_13, U_183_14, XX, QQ, WW, KK, QX, SHs, RRs, Nat.reduceAdd, Nat.reduceMul, Nat.reduceLeDiff, Nat.reduceEqDiff, List.length_cons, List.length_nil, decide_true, decide_false, Bool.true_and, Bool.and_true, Bool.false_and, Bool.and_false, false_and, and_false, Bool.false_eq_true, Bool.true_eq_false, reduceCtorEq, eq_self, if_true, if_false, true_and, and_true, not_true_eq_false, not_false_eq_true, if_pos, if_neg, z_ite_not, false_or, or_false, true_or, or_true, SWs, swk_0, swk_1, k5, z0, w1, e1, g10]
  exact Hr
theorem rtf_2 {m L F F1 k p m1 : Nat} (hL : L < 32) (k0 : psK tp tl m ≠ 0) (h1 : RSt X tp tl m L F m1 F1) (h2 : RTf X tp tl m1 (L + 1) F1 k p) : RTf X tp tl m L F k p := by
  intro d I J w hd w1 h hG h10
  have kb := psK_b (tp := tp) (tl := tl) (m := m)
  obtain ⟨k5, _, _⟩ := RQs_k h
  have z0 := rks_0 kb k0
  have zb := (rs_1 _ kb).2.2.2.2.2
  obtain ⟨I1, e1, f1, s1, g1⟩ := h1 d I J hd h hG h10
  have g10 : I1 177 10 = nI L := by rw [f1.2 10 (by omega)]; exact h10
  obtain ⟨I2, f2, E⟩ := h2 d _ J w hd w1 (RQs_10 (v := nI (L + 1)) s1) (fun q hq => by rw [vu_ne (by decide)]; exact g1 q hq) (by rw [vu_eq, vu_eq])
  refine ⟨I2, RKk_t (RKq_t (RKq_q f1) RKq_10) f2, fun r Hr => ?_⟩
  rw [U_183_6]
  simp (disch := first | omega | assumption | exact rfl) only [U_183_7, U_183_8, U_183_9, U_183_11, U_183_12, U_183_14, XX, QQ, WW, KK, QX, SHs, RRs, Nat.reduceAdd, Nat.reduceMul, Nat.reduceLeDiff, Nat.reduceEqDiff, List.length_cons, List.length_nil, decide_true, decide_false, Bool.true_and, Bool.and_true, Bool.false_and, Bool.and_false, false_and, and_false, Bool.false_eq_true, Bool.true_eq_false, reduceCtorEq, eq_self, if_true, if_false, true_and, and_true, not_true_eq_false, not_false_eq_true, if_pos, if_neg, z_ite_not, false_or, or_false, true_or, or_true, SWs, swk_0, swk_1, k5, z0, w1, e1, g10]
  exact E r Hr
theorem rtt_2 {m L F F1 F' m1 : Nat} (hL : L < 32) (k0 : psK tp tl m ≠ 0) (h1 : RSt X tp tl m L F m1 F1) (h2 : RTt X tp tl m1 (L + 1) F1 F') : RTt X tp tl m L F F' := by
  intro d I J w hd w1 h hG h10
  have kb := psK_b (tp := tp) (tl := tl) (m := m)
  obtain ⟨k5, _, _⟩ := RQs_k h
  have z0 := rks_0 kb k0
  have zb := (rs_1 _ kb).2.2.2.2.2
  obtain ⟨I1, e1, f1, s1, g1⟩ := h1 d I J hd h hG h10
  have g10 : I1 177 10 = nI L := by rw [f1.2 10 (by omega)]; exact h10
  obtain ⟨I2, f2, g2, E⟩ := h2 d _ J w hd w1 (RQs_10 (v := nI (L + 1)) s1) (fun q hq => by rw [vu_ne (by decide)]; exact g1 q hq) (by rw [vu_eq, vu_eq])
  refine ⟨I2, RKq_t (RKq_t (RKq_q f1) RKq_10) f2, g2, fun r Hr => ?_⟩
  rw [U_183_6]
  simp (disch := first | omega | assumption | exact rfl) only [U_183_7, U_183_8, U_183_9, U_183_11, U_183_12, U_183_14, XX, QQ, WW, KK, QX, SHs, RRs, Nat.reduceAdd, Nat.reduceMul, Nat.reduceLeDiff, Nat.reduceEqDiff, List.length_cons, List.length_nil, decide_true, decide_false, Bool.true_and, Bool.and_true, Bool.false_and, Bool.and_false, false_and, and_false, Bool.false_eq_true, Bool.true_eq_false, reduceCtorEq, eq_self, if_true, if_false, true_and, and_true, not_true_eq_false, not_false_eq_true, if_pos, if_neg, z_ite_not, false_or, or_false, true_or, or_true, SWs, swk_0, swk_1, k5, z0, w1, e1, g10]
  exact E r Hr
theorem shape_ : ∀ n m L F, tkT tp tl ≤ m + n → m ≤ tkT tp tl → L ≤ 32 → F < 2 ^ 64 → pop F ≤ 24 → (∃ k p, CTf X tp tl m L F k p ∧ RTf X tp tl m L F k p) ∨ ∃ F', F' < 2 ^ 64 ∧ pop F' ≤ 24 ∧ CTt X tp tl m L F F' ∧ RTt X tp tl m L F F' := by
  intro n
  induction n with
  | zero =>
    intro m L F h1 h2 hL hF hp
    have k0 : psK tp tl m = 0 := by rw [show m = tkT tp tl by omega]; exact psK_T
    exact Or.inr ⟨F, hF, hp, ctt_0 hL k0, rtt_0 k0⟩
  | succ n ih =>
    intro m L F h1 h2 hL hF hp
    by_cases k0 : psK tp tl m = 0
    · exact Or.inr ⟨F, hF, hp, ctt_0 hL k0, rtt_0 k0⟩
    · rcases shline_ (X := X) hL h2 hF with ⟨k, p, a, b⟩ | ⟨hL', m1, F1, b1, b2, b3, b4, c, r⟩
      · exact Or.inl ⟨k, p, ctf_1 hL k0 a, rtf_1 hL k0 b⟩
      · rcases ih m1 (L + 1) F1 (by omega) b1 (by omega) b3 b4 with ⟨k, p, x, y⟩ | ⟨F', d1, d2, x, y⟩
        · exact Or.inl ⟨k, p, ctf_2 hL' k0 c x, rtf_2 hL' k0 r y⟩
        · exact Or.inr ⟨F', d1, d2, ctt_2 hL' k0 c x, rtt_2 hL' k0 r y⟩
end SLP
