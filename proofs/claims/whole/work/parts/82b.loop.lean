/-! ===== the law: its loop (gen82.py) ===== -/
theorem lw_case {j : Nat} {X : Nat × (Nat → Int32)} {d i : Nat} {I : Nat → Nat → Int32} {J : Nat → Nat → Int64} (hj : j < 32) (hd : 62 ≤ d) (hi : i + 6 ≤ X.1) (hL : X.1 ≤ 3072) (h : Inv I J) : ∃ I' J', Inv I' J' ∧ ∀ r, Ev X d 269 1 [.float 1000, .ref 0, .ref 177, .int (nI (i + 6))] [] (mk I' J') r → Ev X d 269 (swf (swt 9) 67 j) [.float 1000, .ref 0, .ref 177, .int (nI i)] [] (mk I J) r := by
  rcases (by omega : j = 0 ∨ j = 1 ∨ j = 2 ∨ j = 3 ∨ j = 4 ∨ j = 5 ∨ j = 6 ∨ j = 7 ∨ j = 8 ∨ j = 9 ∨ j = 10 ∨ j = 11 ∨ j = 12 ∨ j = 13 ∨ j = 14 ∨ j = 15 ∨ j = 16 ∨ j = 17 ∨ j = 18 ∨ j = 19 ∨ j = 20 ∨ j = 21 ∨ j = 22 ∨ j = 23 ∨ j = 24 ∨ j = 25 ∨ j = 26 ∨ j = 27 ∨ j = 28 ∨ j = 29 ∨ j = 30 ∨ j = 31) with rfl | rfl | rfl | rfl | rfl | rfl | rfl | rfl | rfl | rfl | rfl | rfl | rfl | rfl | rfl | rfl | rfl | rfl | rfl | rfl | rfl | rfl | rfl | rfl | rfl | rfl | rfl | rfl | rfl | rfl | rfl | rfl
  · exact lwc_0 hd hi hL h
  · exact lwc_1 hd hi hL h
  · exact lwc_2 hd hi hL h
  · exact lwc_3 hd hi hL h
  · exact lwc_4 hd hi hL h
  · exact lwc_5 hd hi hL h
  · exact lwc_6 hd hi hL h
  · exact lwc_7 hd hi hL h
  · exact lwc_8 hd hi hL h
  · exact lwc_9 hd hi hL h
  · exact lwc_10 hd hi hL h
  · exact lwc_11 hd hi hL h
  · exact lwc_12 hd hi hL h
  · exact lwc_13 hd hi hL h
  · exact lwc_14 hd hi hL h
  · exact lwc_15 hd hi hL h
  · exact lwc_16 hd hi hL h
  · exact lwc_17 hd hi hL h
  · exact lwc_18 hd hi hL h
  · exact lwc_19 hd hi hL h
  · exact lwc_20 hd hi hL h
  · exact lwc_21 hd hi hL h
  · exact lwc_22 hd hi hL h
  · exact lwc_23 hd hi hL h
  · exact lwc_24 hd hi hL h
  · exact lwc_25 hd hi hL h
  · exact lwc_26 hd hi hL h
  · exact lwc_27 hd hi hL h
  · exact lwc_28 hd hi hL h
  · exact lwc_d hd hi hL h
  · exact lwc_d hd hi hL h
  · exact lwc_d hd hi hL h
theorem sw9k {d n : Nat} {L st : List Value} {m : Mem} (hn : n < 2 ^ 31) : swk (swt 9) d (nI n) L st m = some (.inr (swf (swt 9) d n, L, st, m)) := swk_f hn _ (by rw [sw9]; decide)
theorem lw_body {X : Nat × (Nat → Int32)} {d i : Nat} {I : Nat → Nat → Int32} {J : Nat → Nat → Int64} (hd : 62 ≤ d) (hi : i + 6 ≤ X.1) (hL : X.1 ≤ 3072) (h : Inv I J) : ∃ I' J', Inv I' J' ∧ ∀ r, Ev X d 269 1 [.float 1000, .ref 0, .ref 177, .int (nI (i + 6))] [] (mk I' J') r → Ev X d 269 1 [.float 1000, .ref 0, .ref 177, .int (nI i)] [] (mk I J) r := by
  obtain ⟨n, _, en⟩ := wb_of32 (X.2 i)
  have hx : X.2 i &&& nI 31 = nI (n &&& 31) := by rw [en, fa_and]
  have j32 : n &&& 31 < 32 := Nat.lt_of_le_of_lt Nat.and_le_right (by decide)
  obtain ⟨j, ej⟩ : ∃ j, j = n &&& 31 := ⟨_, rfl⟩
  rw [← ej] at hx j32
  obtain ⟨I', J', h', H⟩ := lw_case (X := X) (d := d) (i := i) j32 hd hi hL h
  refine ⟨I', J', h', fun r Hr => ?_⟩
  have H1 := H r Hr
  have i0 : i < X.1 := by omega
  have s6 : nI X.1 - nI 6 = nI (X.1 - 6) := q_sub (by omega)
  have z : ¬ X.1 - 6 < i := by omega
  have sk := sw9k (d := 67) (n := j) (L := [.float 1000, .ref 0, .ref 177, .int (nI i)]) (st := []) (m := mk I J) (by omega)
  simp (disch := first | omega | assumption | exact rfl) only [U_269_1, U_269_2, XX, QQ, WW, KK, QX, SHs, RRs, Nat.reduceAdd, Nat.reduceMul, Nat.reduceLeDiff, Nat.reduceEqDiff, List.length_cons, List.length_nil, decide_true, decide_false, Bool.true_and, Bool.and_true, Bool.false_and, Bool.and_false, false_and, and_false, Bool.false_eq_true, Bool.true_eq_false, reduceCtorEq, eq_self, if_true, if_false, true_and, and_true, not_true_eq_false, not_false_eq_true, if_pos, if_neg, z_ite_not, s6, z, hx, sk]
  exact H1
theorem lw_exit {X : Nat × (Nat → Int32)} {d i : Nat} {I : Nat → Nat → Int32} {J : Nat → Nat → Int64} (hi : X.1 < i + 6) (hL : X.1 ≤ 3072) (h2 : i ≤ 4000) : Ev X d 269 1 [.float 1000, .ref 0, .ref 177, .int (nI i)] [] (mk I J) (some (.int (nI 1)), mk I J) := by
  have z : nI X.1 - nI 6 < nI i := by
    have t1 : (nI X.1).toInt = (X.1 : Int) := nI_toInt (by omega)
    have t2 : (nI 6).toInt = ((6 : Nat) : Int) := nI_toInt (by decide)
    have t3 : (nI i).toInt = (i : Int) := nI_toInt (by omega)
    rw [Int32.lt_iff_toInt_lt, fb_subI (by rw [t1, t2]; omega) (by rw [t1, t2]; omega), t1, t2, t3]
    omega
  simp (disch := first | omega | assumption | exact rfl) only [U_269_1, U_269_68, XX, QQ, WW, KK, QX, SHs, RRs, Nat.reduceAdd, Nat.reduceMul, Nat.reduceLeDiff, Nat.reduceEqDiff, List.length_cons, List.length_nil, decide_true, decide_false, Bool.true_and, Bool.and_true, Bool.false_and, Bool.and_false, false_and, and_false, Bool.false_eq_true, Bool.true_eq_false, reduceCtorEq, eq_self, if_true, if_false, true_and, and_true, not_true_eq_false, not_false_eq_true, if_pos, if_neg, z_ite_not, z]
theorem lw_loop {X : Nat × (Nat → Int32)} {d : Nat} (hd : 62 ≤ d) (hL : X.1 ≤ 3072) : ∀ m i (I : Nat → Nat → Int32) (J : Nat → Nat → Int64), X.1 < i + 6 * m + 6 → i ≤ 3078 → Inv I J → ∃ I' J', Ev X d 269 1 [.float 1000, .ref 0, .ref 177, .int (nI i)] [] (mk I J) (some (.int (nI 1)), mk I' J') := by
  intro m
  induction m with
  | zero => exact fun i I J h1 h2 h => ⟨I, J, lw_exit (by omega) hL (by omega)⟩
  | succ m ih =>
    intro i I J h1 h2 h
    by_cases z : i + 6 ≤ X.1
    · obtain ⟨I1, J1, h', H⟩ := lw_body (X := X) (d := d) (i := i) hd z hL h
      obtain ⟨I2, J2, E⟩ := ih (i + 6) I1 J1 (by omega) (by omega) h'
      exact ⟨I2, J2, H _ E⟩
    · exact ⟨I, J, lw_exit (by omega) hL (by omega)⟩
theorem law_abs : ∀ (Lx : Nat) (xs : Nat → Int32), Lx ≤ 3072 → ∃ (n : Nat) (M' : Mem), runF (callF (Lx, xs) 800) (Lx, xs) 269 n 0 (entL 269 [.float 1000]) [] M00 = some (some (.int 1), M') ∧ m_n M' ≤ 600000 ∧ m_z M' ≤ 7302250 := by
  intro Lx xs hL
  obtain ⟨I, J, h, H⟩ := start_ (X := (Lx, xs)) (d := 800) (by decide)
  obtain ⟨I', J', E⟩ := lw_loop (X := (Lx, xs)) (d := 800) (by decide) hL 512 0 I J (by show Lx < _; omega) (by decide) h
  obtain ⟨n, e⟩ := H _ E
  exact ⟨n, mk I' J', e, (by decide : (201 : Nat) ≤ 600000), (by decide : (48153 : Nat) ≤ 7302250)⟩
