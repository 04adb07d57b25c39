/-! ===== two bricks meet: the class ===== -/
def MT (I : Nat → Nat → Int32) (fi : Nat → Nat → Int32) : Prop := (∀ p q, p < q → q < 24 → I 7 (p * 24 + q) = fi p q) ∧ I 1 4 = nI (metN fi)
def FrM (I I' : Nat → Nat → Int32) : Prop := (∀ a, a ≠ 1 → a ≠ 7 → I' a = I a) ∧ (∀ k, k ≠ 4 → I' 1 k = I 1 k)
theorem FrM_r (I : Nat → Nat → Int32) : FrM I I := ⟨fun _ _ _ => rfl, fun _ _ => rfl⟩
theorem FrM_t {I I' I'' : Nat → Nat → Int32} (h : FrM I I') (h2 : FrM I' I'') : FrM I I'' := ⟨fun a x y => (h2.1 a x y).trans (h.1 a x y), fun k hk => (h2.2 k hk).trans (h.2 k hk)⟩
theorem metN_le (fi : Nat → Nat → Int32) : metN fi ≤ 800 := by
  unfold metN
  have : fb_sm (fun b => pop (mtS fi b)) 24 ≤ 24 * 64 := fb_sm_bound (fun _ _ => pop_le _)
  omega
theorem c_meetBoth {X : Nat × (Nat → Int32)} {d : Nat} {I : Nat → Nat → Int32} {J : Nat → Nat → Int64} {b c yr : Nat} {fi : Nat → Nat → Int32} (hd : 3 ≤ d) (hb : b < 24) (hc : c < 24) (hbc : b ≠ c) (hok : fiOk fi) (hM : MT I fi) (hy : I 1 3 = nI yr) (hyr : yr ≤ 999) :
    ∃ I', callF X d 110 [.ref 1, .int (nI b), .int (nI c)] (mk I J) = some (none, mk I' J) ∧ MT I' (mt1 fi (nI yr) b c) ∧ FrM I I' := by
  obtain ⟨h3, h4⟩ := hM
  obtain ⟨d, rfl⟩ : ∃ d', d = d' + 1 := ⟨d - 1, by omega⟩
  have fo := c_firstOf (X := X) (d := d) (J := J) (by omega) hb hc hbc hok.1 h3
  have ml := metN_le fi
  by_cases z : fi b c = -1
  · have hsum := mt1_sum (y := nI yr) hok hb hc hbc z (nI_ne (by omega))
    rw [z] at fo
    obtain ⟨lo, elo⟩ : ∃ lo, lo = if b < c then b else c := ⟨_, rfl⟩
    obtain ⟨hi, ehi⟩ : ∃ hi, hi = if b < c then c else b := ⟨_, rfl⟩
    have hlh : lo < hi ∧ hi < 24 ∧ ((lo = b ∧ hi = c) ∨ (lo = c ∧ hi = b)) := by
      rw [elo, ehi]; split <;> omega
    obtain ⟨l1, l2, l3⟩ := hlh
    refine ⟨va_up (va_up I 7 (va_up (I 7) (lo * 24 + hi) (nI yr))) 1 (va_up (I 1) 4 (nI (metN fi + 1))), ?_, ⟨fun p q hp hq => ?_, ?_⟩, fun a x y => by rw [vu_ne x, vu_ne y], fun k hk => by rw [vu_eq, vu_ne hk]⟩
    · refine callF_at (by omega) (by decide) (Nat.le_of_ble_eq_true rfl) (fun d' hd' => ?_)
      obtain rfl : d = d' := by omega
      show Ev X d 110 0 [.ref 1, .int (nI b), .int (nI c)] [] (mk I J) _
      by_cases w : b < c
      · rw [if_pos w] at elo ehi
        rw [elo, ehi]
        have w2 : ¬ c < b := by omega
        simp (disch := first | omega | assumption | exact rfl) only [U_110_0, U_110_1, U_110_2, U_110_3, U_110_4, XX, QQ, WW, KK, QX, SHs, RRs, Nat.reduceAdd, Nat.reduceMul, Nat.reduceLeDiff, Nat.reduceEqDiff, List.length_cons, List.length_nil, decide_true, decide_false, Bool.true_and, Bool.and_true, Bool.false_and, Bool.and_false, false_and, and_false, Bool.false_eq_true, Bool.true_eq_false, reduceCtorEq, eq_self, if_true, if_false, true_and, and_true, not_true_eq_false, not_false_eq_true, if_pos, if_neg, z_ite_not, false_or, or_false, true_or, or_true, SWs, swk_0, swk_1, s_isOf, fo, hy, h4, if_pos w, if_neg w2]
      · rw [if_neg w] at elo ehi
        rw [elo, ehi]
        have w2 : c < b := by omega
        simp (disch := first | omega | assumption | exact rfl) only [U_110_0, U_110_1, U_110_2, U_110_3, U_110_4, XX, QQ, WW, KK, QX, SHs, RRs, Nat.reduceAdd, Nat.reduceMul, Nat.reduceLeDiff, Nat.reduceEqDiff, List.length_cons, List.length_nil, decide_true, decide_false, Bool.true_and, Bool.and_true, Bool.false_and, Bool.and_false, false_and, and_false, Bool.false_eq_true, Bool.true_eq_false, reduceCtorEq, eq_self, if_true, if_false, true_and, and_true, not_true_eq_false, not_false_eq_true, if_pos, if_neg, z_ite_not, false_or, or_false, true_or, or_true, SWs, swk_0, swk_1, s_isOf, fo, hy, h4, if_neg w, if_pos w2]
    · rw [vu_ne (by decide), vu_eq]
      unfold mt1
      by_cases w : p = lo ∧ q = hi
      · rw [w.1, w.2, vu_eq, if_pos ⟨z, by omega⟩]
      · rw [vu_ne (by omega), if_neg (by omega)]; exact h3 p q hp hq
    · rw [vu_eq, vu_eq, hsum]
  · rw [mt1_no z]
    refine ⟨I, ?_, ⟨h3, h4⟩, FrM_r I⟩
    refine callF_at (by omega) (by decide) (Nat.le_of_ble_eq_true rfl) (fun d' hd' => ?_)
    obtain rfl : d = d' := by omega
    show Ev X d 110 0 [.ref 1, .int (nI b), .int (nI c)] [] (mk I J) _
    simp (disch := first | omega | assumption | exact rfl) only [U_110_0, U_110_1, U_110_2, U_110_4, XX, QQ, WW, KK, QX, SHs, RRs, Nat.reduceAdd, Nat.reduceMul, Nat.reduceLeDiff, Nat.reduceEqDiff, List.length_cons, List.length_nil, decide_true, decide_false, Bool.true_and, Bool.and_true, Bool.false_and, Bool.and_false, false_and, and_false, Bool.false_eq_true, Bool.true_eq_false, reduceCtorEq, eq_self, if_true, if_false, true_and, and_true, not_true_eq_false, not_false_eq_true, if_pos, if_neg, z_ite_not, false_or, or_false, true_or, or_true, SWs, swk_0, swk_1, s_isOf, fo, z]
theorem c_meetNo {X : Nat × (Nat → Int32)} {d : Nat} {I : Nat → Nat → Int32} {J : Nat → Nat → Int64} {u v : Int32} (hd : 2 ≤ d) (h : u = -1 ∨ (v = -1 ∧ ∃ b, b < 24 ∧ u = nI b)) : callF X d 110 [.ref 1, .int u, .int v] (mk I J) = some (none, mk I J) := by
  have o : (decide (0 ≤ (-1 : Int32)) && decide ((-1 : Int32) < nI 24)) = false := by decide +kernel
  rcases h with rfl | ⟨rfl, b, hb, rfl⟩
  · refine callF_at (by omega) (by decide) (Nat.le_of_ble_eq_true rfl) (fun d _ => ?_)
    show Ev X d 110 0 [.ref 1, .int (-1), .int v] [] ( mk I J) _
    simp (disch := first | omega | assumption | exact rfl) only [U_110_0, U_110_4, XX, QQ, WW, KK, QX, SHs, RRs, Nat.reduceAdd, Nat.reduceMul, Nat.reduceLeDiff, Nat.reduceEqDiff, List.length_cons, List.length_nil, decide_true, decide_false, Bool.true_and, Bool.and_true, Bool.false_and, Bool.and_false, false_and, and_false, Bool.false_eq_true, Bool.true_eq_false, reduceCtorEq, eq_self, if_true, if_false, true_and, and_true, not_true_eq_false, not_false_eq_true, if_pos, if_neg, z_ite_not, false_or, or_false, true_or, or_true, SWs, swk_0, swk_1, s_isOf, o]
  · refine callF_at (by omega) (by decide) (Nat.le_of_ble_eq_true rfl) (fun d _ => ?_)
    show Ev X d 110 0 [.ref 1, .int (nI b), .int (-1)] [] ( mk I J) _
    simp (disch := first | omega | assumption | exact rfl) only [U_110_0, U_110_1, U_110_4, XX, QQ, WW, KK, QX, SHs, RRs, Nat.reduceAdd, Nat.reduceMul, Nat.reduceLeDiff, Nat.reduceEqDiff, List.length_cons, List.length_nil, decide_true, decide_false, Bool.true_and, Bool.and_true, Bool.false_and, Bool.and_false, false_and, and_false, Bool.false_eq_true, Bool.true_eq_false, reduceCtorEq, eq_self, if_true, if_false, true_and, and_true, not_true_eq_false, not_false_eq_true, if_pos, if_neg, z_ite_not, false_or, or_false, true_or, or_true, SWs, swk_0, swk_1, s_isOf, o]
