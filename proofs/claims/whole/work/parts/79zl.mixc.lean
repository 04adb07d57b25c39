/-! ===== mixing: the class ===== -/
theorem c_mix {X : Nat × (Nat → Int32)} {d : Nat} {I : Nat → Nat → Int32} {J : Nat → Nat → Int64} {F2 : Nat} {B : Nat → Int32} {x : Int32} (hd : 4 ≤ d) (hW : WG (mk I J) 145 F2) (h0 : 0 < pop F2) (hE : I 146 = B) (hx : I 1 0 = x) :
    callF X d 23 [.ref 140, .ref 1] (mk I J) = some (none, mk (va_up (va_up I 146 (mxF (pop F2 - 1) x B).2) 1 (va_up (I 1) 0 (mxF (pop F2 - 1) x B).1)) J) := by
  have h24 := hW.2.2.1
  have c1 : I 145 1 = nI (pop F2) := hW.2.2.2.2.1
  obtain ⟨d, rfl⟩ : ∃ d', d = d' + 1 := ⟨d - 1, by omega⟩
  refine callF_at (by omega) (by decide) (Nat.le_of_ble_eq_true rfl) (fun d' hd' => ?_)
  obtain rfl : d = d' := by omega
  show Ev X d 23 0 [.ref 140, .ref 1, .retAddr 0] [] (mk I J) _
  have lp : ∀ i, i < pop F2 → ∀ (x : Int32) (B : Nat → Int32), Ev X d 23 1 [.ref 140, .ref 1, .int (nI i)] [] (mk (va_up (va_up I 146 B) 1 (va_up (I 1) 0 x)) J) (none, mk (va_up (va_up I 146 (mxF i x B).2) 1 (va_up (I 1) 0 (mxF i x B).1)) J) := by
    intro i
    induction i with
    | zero =>
      intro _ x B
      rw [U_23_1]
      simp (disch := first | omega | assumption | exact rfl) only [U_23_3, XX, QQ, WW, KK, QX, SHs, RRs, Nat.reduceAdd, Nat.reduceMul, Nat.reduceLeDiff, Nat.reduceEqDiff, List.length_cons, List.length_nil, decide_true, decide_false, Bool.true_and, Bool.and_true, Bool.false_and, Bool.and_false, false_and, and_false, Bool.false_eq_true, Bool.true_eq_false, reduceCtorEq, eq_self, if_true, if_false, true_and, and_true, not_true_eq_false, not_false_eq_true, if_pos, if_neg, z_ite_not, false_or, or_false, true_or, or_true, SWs, swk_0, swk_1]
      rfl
    | succ i ih =>
      intro hi x B
      have IH := ih (by omega) (dS x) (swp B (i + 1) (dV x (i + 2)))
      have i24 : i + 1 < 24 := by omega
      obtain ⟨Ic, eIc⟩ : ∃ Ic, Ic = va_up (va_up I 146 B) 1 (va_up (I 1) 0 x) := ⟨_, rfl⟩
      have cf : ∀ a, a ≠ 1 → a ≠ 146 → Ic a = I a := fun a h1 h2 => by rw [eIc, vu_ne h1, vu_ne h2]
      have c10 : Ic 1 = va_up (I 1) 0 x := by rw [eIc, vu_eq]
      have c6 : Ic 146 = B := by rw [eIc, vu_ne (by decide), vu_eq]
      have dr := c_draw (X := X) (d := d) (I := Ic) (J := J) (m := i + 2) (by omega) (by omega) (by omega)
      rw [show nI 1664525 * Ic 1 0 + nI 1013904223 = dS x by rw [c10, vu_eq]; rfl] at dr
      rw [show (dS x).toUInt32.toNat / 256 % (i + 2) = dV x (i + 2) from rfl] at dr
      have vl := dV_lt (x := x) (m := i + 2) (by omega)
      obtain ⟨v, ev⟩ : ∃ v, v = dV x (i + 2) := ⟨_, rfl⟩
      rw [← ev] at dr vl IH
      have eIn : va_up Ic 1 (va_up (Ic 1) 0 (dS x)) = va_up (va_up I 146 B) 1 (va_up (I 1) 0 (dS x)) := by
        rw [c10, vu_vu, eIc, vu_vu]
      rw [eIn] at dr
      obtain ⟨Id, eId⟩ : ∃ Id, Id = va_up (va_up I 146 B) 1 (va_up (I 1) 0 (dS x)) := ⟨_, rfl⟩
      rw [← eId] at dr
      have df : ∀ a, a ≠ 1 → a ≠ 146 → Id a = I a := fun a h1 h2 => by rw [eId, vu_ne h1, vu_ne h2]
      have d6 : Id 146 = B := by rw [eId, vu_ne (by decide), vu_eq]
      have hWd : WG (mk Id J) 145 F2 := WG_b hW (df _ (by decide) (by decide)) (df _ (by decide) (by decide)) (df _ (by decide) (by decide)) rfl
      have ex := s_exchange (X := X) (d := d) (W := 145) (i := i + 1) (j := v) (by omega) hWd (by omega) (by omega)
      have ex : callF X d 103 [.ref 145, .int (nI (i + 1)), .int (nI v)] (mk Id J) = some (none, mk (va_up (va_up I 146 (swp B (i + 1) v)) 1 (va_up (I 1) 0 (dS x))) J) := by
        refine ex.trans ?_
        show some (none, mk (va_up Id 146 (swp (Id 146) (i + 1) v)) J) = _
        rw [d6, eId]
        congr 3
        funext q
        by_cases q1 : q = 146
        · subst q1; rw [vu_eq, vu_ne (by decide), vu_eq]
        · rw [vu_ne q1]
          by_cases q2 : q = 1
          · subst q2; rw [vu_eq, vu_eq]
          · rw [vu_ne q2, vu_ne q2, vu_ne q1, vu_ne q1]
      have em : mxF (i + 1) x B = mxF i (dS x) (swp B (i + 1) v) := by rw [ev]; rfl
      rw [em, ← eIc]
      rw [U_23_1]
      simp (disch := first | omega | assumption | exact rfl) only [U_23_2, XX, QQ, WW, KK, QX, SHs, RRs, Nat.reduceAdd, Nat.reduceMul, Nat.reduceLeDiff, Nat.reduceEqDiff, List.length_cons, List.length_nil, decide_true, decide_false, Bool.true_and, Bool.and_true, Bool.false_and, Bool.and_false, false_and, and_false, Bool.false_eq_true, Bool.true_eq_false, reduceCtorEq, eq_self, if_true, if_false, true_and, and_true, not_true_eq_false, not_false_eq_true, if_pos, if_neg, z_ite_not, false_or, or_false, true_or, or_true, SWs, swk_0, swk_1, dr, ex]
      exact IH
  have st := lp (pop F2 - 1) (by omega) x B
  rw [show va_up (va_up I 146 B) 1 (va_up (I 1) 0 x) = I by rw [vu_same hE, vu_same hx, vu_id]] at st
  simp (disch := first | omega | assumption | exact rfl) only [U_23_0, XX, QQ, WW, KK, QX, SHs, RRs, Nat.reduceAdd, Nat.reduceMul, Nat.reduceLeDiff, Nat.reduceEqDiff, List.length_cons, List.length_nil, decide_true, decide_false, Bool.true_and, Bool.and_true, Bool.false_and, Bool.and_false, false_and, and_false, Bool.false_eq_true, Bool.true_eq_false, reduceCtorEq, eq_self, if_true, if_false, true_and, and_true, not_true_eq_false, not_false_eq_true, if_pos, if_neg, z_ite_not, false_or, or_false, true_or, or_true, SWs, swk_0, swk_1, c1]
  exact st
