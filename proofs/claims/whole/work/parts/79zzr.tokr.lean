/-! ===== tokens: the reference's small words ===== -/
def RTp (I : Nat → Nat → Int32) (tp : Nat → Nat) (tl : Nat) : Prop := tl ≤ 400 ∧ I 177 12 = nI tl ∧ ∀ i, i < tl → tp i < 256 ∧ I 182 i = nI (tp i)
theorem r_see {X : Nat × (Nat → Int32)} {d : Nat} {I : Nat → Nat → Int32} {J : Nat → Nat → Int64} {tp : Nat → Nat} {tl k : Nat} (hd : 1 ≤ d) (hT : RTp I tp tl) (hk : k < 2 ^ 30) : callF X d 161 [.ref 177, .int (nI k)] (mk I J) = some (some (.int (if k < tl then nI (tp k) else -1)), mk I J) := by
  obtain ⟨h400, h12, hT⟩ := hT
  refine callF_at (by omega) (by decide) (Nat.le_of_ble_eq_true rfl) (fun d _ => ?_)
  show Ev X d 161 0 [.ref 177, .int (nI k)] [] ( mk I J) _
  by_cases z : k < tl
  · obtain ⟨a, b⟩ := hT k z
    have k400 : k < 400 := by omega
    rw [if_pos z]
    simp (disch := first | omega | assumption | exact rfl) only [U_161_0, U_161_1, U_161_3, XX, QQ, WW, KK, QX, SHs, RRs, Nat.reduceAdd, Nat.reduceMul, Nat.reduceLeDiff, Nat.reduceEqDiff, List.length_cons, List.length_nil, decide_true, decide_false, Bool.true_and, Bool.and_true, Bool.false_and, Bool.and_false, false_and, and_false, Bool.false_eq_true, Bool.true_eq_false, reduceCtorEq, eq_self, if_true, if_false, true_and, and_true, not_true_eq_false, not_false_eq_true, if_pos, if_neg, z_ite_not, false_or, or_false, true_or, or_true, SWs, swk_0, swk_1, h12, b]
  · rw [if_neg z]
    have tl31 : tl < 2 ^ 31 := by omega
    simp (disch := first | omega | assumption | exact rfl) only [U_161_0, U_161_2, U_161_3, XX, QQ, WW, KK, QX, SHs, RRs, Nat.reduceAdd, Nat.reduceMul, Nat.reduceLeDiff, Nat.reduceEqDiff, List.length_cons, List.length_nil, decide_true, decide_false, Bool.true_and, Bool.and_true, Bool.false_and, Bool.and_false, false_and, and_false, Bool.false_eq_true, Bool.true_eq_false, reduceCtorEq, eq_self, if_true, if_false, true_and, and_true, not_true_eq_false, not_false_eq_true, if_pos, if_neg, z_ite_not, false_or, or_false, true_or, or_true, SWs, swk_0, swk_1, h12, z]
theorem r_ltr {X : Nat × (Nat → Int32)} {d : Nat} {M : Mem} {c : Nat} (hd : 2 ≤ d) (hc : c < 2 ^ 31) : callF X d 162 [.int (nI c)] M = some (some (.int (bI (ltr c))), M) := by
  refine callF_at (by omega) (by decide) (Nat.le_of_ble_eq_true rfl) (fun d _ => ?_)
  show Ev X d 162 0 [.int (nI c)] [] M _
  have e1 : (decide (nI 97 ≤ nI c) && decide (nI c ≤ nI 122)) = (decide (97 ≤ c) && decide (c ≤ 122)) := by rw [Bool.eq_iff_iff, Bool.and_eq_true, Bool.and_eq_true, decide_eq_true_iff, decide_eq_true_iff, decide_eq_true_iff, decide_eq_true_iff, nI_leI (by decide) hc, nI_leI hc (by decide)]
  have e2 : (decide (nI 65 ≤ nI c) && decide (nI c ≤ nI 90)) = (decide (65 ≤ c) && decide (c ≤ 90)) := by rw [Bool.eq_iff_iff, Bool.and_eq_true, Bool.and_eq_true, decide_eq_true_iff, decide_eq_true_iff, decide_eq_true_iff, decide_eq_true_iff, nI_leI (by decide) hc, nI_leI hc (by decide)]
  have i1 := fun M => r_isIn (X := X) (d := d) (M := M) (v := nI c) (lo := nI 97) (hi := nI 122) (by omega)
  have i2 := fun M => r_isIn (X := X) (d := d) (M := M) (v := nI c) (lo := nI 65) (hi := nI 90) (by omega)
  rw [e1] at i1
  rw [e2] at i2
  unfold ltr
  cases a : (decide (97 ≤ c) && decide (c ≤ 122)) with
  | true =>
    rw [a] at i1
    simp (disch := first | omega | assumption | exact rfl) only [U_162_0, U_162_2, U_162_4, XX, QQ, WW, KK, QX, SHs, RRs, Nat.reduceAdd, Nat.reduceMul, Nat.reduceLeDiff, Nat.reduceEqDiff, List.length_cons, List.length_nil, decide_true, decide_false, Bool.true_and, Bool.and_true, Bool.false_and, Bool.and_false, false_and, and_false, Bool.false_eq_true, Bool.true_eq_false, reduceCtorEq, eq_self, if_true, if_false, true_and, and_true, not_true_eq_false, not_false_eq_true, if_pos, if_neg, z_ite_not, false_or, or_false, true_or, or_true, SWs, swk_0, swk_1, i1]
    rfl
  | false =>
    rw [a] at i1
    cases b : (decide (65 ≤ c) && decide (c ≤ 90)) with
    | true =>
      rw [b] at i2
      simp (disch := first | omega | assumption | exact rfl) only [U_162_0, U_162_1, U_162_2, U_162_4, XX, QQ, WW, KK, QX, SHs, RRs, Nat.reduceAdd, Nat.reduceMul, Nat.reduceLeDiff, Nat.reduceEqDiff, List.length_cons, List.length_nil, decide_true, decide_false, Bool.true_and, Bool.and_true, Bool.false_and, Bool.and_false, false_and, and_false, Bool.false_eq_true, Bool.true_eq_false, reduceCtorEq, eq_self, if_true, if_false, true_and, and_true, not_true_eq_false, not_false_eq_true, if_pos, if_neg, z_ite_not, false_or, or_false, true_or, or_true, SWs, swk_0, swk_1, i1, i2]
      rfl
    | false =>
      rw [b] at i2
      simp (disch := first | omega | assumption | exact rfl) only [U_162_0, U_162_1, U_162_3, U_162_4, XX, QQ, WW, KK, QX, SHs, RRs, Nat.reduceAdd, Nat.reduceMul, Nat.reduceLeDiff, Nat.reduceEqDiff, List.length_cons, List.length_nil, decide_true, decide_false, Bool.true_and, Bool.and_true, Bool.false_and, Bool.and_false, false_and, and_false, Bool.false_eq_true, Bool.true_eq_false, reduceCtorEq, eq_self, if_true, if_false, true_and, and_true, not_true_eq_false, not_false_eq_true, if_pos, if_neg, z_ite_not, false_or, or_false, true_or, or_true, SWs, swk_0, swk_1, i1, i2]
      rfl
theorem r_ltr1 {X : Nat × (Nat → Int32)} {d : Nat} {M : Mem} (hd : 2 ≤ d) : callF X d 162 [.int (-1)] M = some (some (.int (bI false)), M) := by
  refine callF_at (by omega) (by decide) (Nat.le_of_ble_eq_true rfl) (fun d _ => ?_)
  show Ev X d 162 0 [.int (-1)] [] M _
  have i1 := fun M => r_isIn (X := X) (d := d) (M := M) (v := -1) (lo := nI 97) (hi := nI 122) (by omega)
  have i2 := fun M => r_isIn (X := X) (d := d) (M := M) (v := -1) (lo := nI 65) (hi := nI 90) (by omega)
  rw [show (decide (nI 97 ≤ (-1 : Int32)) && decide ((-1 : Int32) ≤ nI 122)) = false by decide +kernel] at i1
  rw [show (decide (nI 65 ≤ (-1 : Int32)) && decide ((-1 : Int32) ≤ nI 90)) = false by decide +kernel] at i2
  simp (disch := first | omega | assumption | exact rfl) only [U_162_0, U_162_1, U_162_3, U_162_4, XX, QQ, WW, KK, QX, SHs, RRs, Nat.reduceAdd, Nat.reduceMul, Nat.reduceLeDiff, Nat.reduceEqDiff, List.length_cons, List.length_nil, decide_true, decide_false, Bool.true_and, Bool.and_true, Bool.false_and, Bool.and_false, false_and, and_false, Bool.false_eq_true, Bool.true_eq_false, reduceCtorEq, eq_self, if_true, if_false, true_and, and_true, not_true_eq_false, not_false_eq_true, if_pos, if_neg, z_ite_not, false_or, or_false, true_or, or_true, SWs, swk_0, swk_1, i1, i2]
theorem r_dgt {X : Nat × (Nat → Int32)} {d : Nat} {M : Mem} {c : Nat} (hd : 2 ≤ d) (hc : c < 2 ^ 31) : callF X d 163 [.int (nI c)] M = some (some (.int (bI (dgt c))), M) := by
  refine callF_at (by omega) (by decide) (Nat.le_of_ble_eq_true rfl) (fun d _ => ?_)
  show Ev X d 163 0 [.int (nI c)] [] M _
  have e1 : (decide (nI 48 ≤ nI c) && decide (nI c ≤ nI 57)) = (decide (48 ≤ c) && decide (c ≤ 57)) := by rw [Bool.eq_iff_iff, Bool.and_eq_true, Bool.and_eq_true, decide_eq_true_iff, decide_eq_true_iff, decide_eq_true_iff, decide_eq_true_iff, nI_leI (by decide) hc, nI_leI hc (by decide)]
  have i1 := fun M => r_isIn (X := X) (d := d) (M := M) (v := nI c) (lo := nI 48) (hi := nI 57) (by omega)
  rw [e1] at i1
  unfold dgt
  simp (disch := first | omega | assumption | exact rfl) only [U_163_0, XX, QQ, WW, KK, QX, SHs, RRs, Nat.reduceAdd, Nat.reduceMul, Nat.reduceLeDiff, Nat.reduceEqDiff, List.length_cons, List.length_nil, decide_true, decide_false, Bool.true_and, Bool.and_true, Bool.false_and, Bool.and_false, false_and, and_false, Bool.false_eq_true, Bool.true_eq_false, reduceCtorEq, eq_self, if_true, if_false, true_and, and_true, not_true_eq_false, not_false_eq_true, if_pos, if_neg, z_ite_not, false_or, or_false, true_or, or_true, SWs, swk_0, swk_1, i1]
theorem r_dgt1 {X : Nat × (Nat → Int32)} {d : Nat} {M : Mem} (hd : 2 ≤ d) : callF X d 163 [.int (-1)] M = some (some (.int (bI false)), M) := by
  refine callF_at (by omega) (by decide) (Nat.le_of_ble_eq_true rfl) (fun d _ => ?_)
  show Ev X d 163 0 [.int (-1)] [] M _
  have i1 := fun M => r_isIn (X := X) (d := d) (M := M) (v := -1) (lo := nI 48) (hi := nI 57) (by omega)
  rw [show (decide (nI 48 ≤ (-1 : Int32)) && decide ((-1 : Int32) ≤ nI 57)) = false by decide +kernel] at i1
  simp (disch := first | omega | assumption | exact rfl) only [U_163_0, XX, QQ, WW, KK, QX, SHs, RRs, Nat.reduceAdd, Nat.reduceMul, Nat.reduceLeDiff, Nat.reduceEqDiff, List.length_cons, List.length_nil, decide_true, decide_false, Bool.true_and, Bool.and_true, Bool.false_and, Bool.and_false, false_and, and_false, Bool.false_eq_true, Bool.true_eq_false, reduceCtorEq, eq_self, if_true, if_false, true_and, and_true, not_true_eq_false, not_false_eq_true, if_pos, if_neg, z_ite_not, false_or, or_false, true_or, or_true, SWs, swk_0, swk_1, i1]
theorem st_len : ∀ k, k < 22 → 2 ≤ k → (strT k).length ≤ 5 ∧ ∀ i, i < 5 → (strT k).getD i 0 < 256 := by decide +kernel
theorem r_is {X : Nat × (Nat → Int32)} {d : Nat} {I : Nat → Nat → Int32} {J : Nat → Nat → Int64} {tp : Nat → Nat} {tl p e k : Nat} (hd : 10 ≤ d) (hT : RTp I tp tl) (h13 : I 177 13 = nI e) (h15 : I 177 15 = nI p) (hpe : p ≤ e) (hel : e ≤ tl) (hk : k < 22) (hk2 : 2 ≤ k) : callF X d 164 [.ref 177, .float (UInt32.ofNat k)] (mk I J) = some (some (.int (bI (decide (strT k = txt tp p (e - p))))), mk I J) := by
  obtain ⟨h400, h12, hT⟩ := hT
  obtain ⟨l5, lc⟩ := st_len k hk hk2
  refine callF_at (by omega) (by decide) (Nat.le_of_ble_eq_true rfl) (fun d _ => ?_)
  show Ev X d 164 0 [.ref 177, .float (UInt32.ofNat k), .retAddr 0, .retAddr 0] [] ( mk I J) _
  have pl := fun M => p1000 (X := X) (d := d) (M := M) (k := k) (by omega) hk
  obtain ⟨n, en⟩ : ∃ n, n = (strT k).length := ⟨_, rfl⟩
  have pc : ∀ M i, i < n → callF X d 1001 [.float (UInt32.ofNat k), .int (nI i)] M = some (some (.int (nI ((strT k).getD i 0))), M) := fun M i hi => p1001 (by omega) hk (by omega) (by omega)
  rw [← en] at pl l5
  obtain ⟨t, et⟩ : ∃ t, t = UInt32.ofNat k := ⟨_, rfl⟩
  rw [← et] at pl pc ⊢
  by_cases z : e - p = n
  · have iff : strT k = txt tp p (e - p) ↔ ∀ j, j < n → (strT k).getD j 0 = tp (p + j) := by
      rw [txt_eq, ← en, z]
      exact ⟨fun h => h.2, fun h => ⟨rfl, h⟩⟩
    have out : ∀ (b : Bool) (u3 : Value), decide (strT k = txt tp p (e - p)) = b → Ev X d 164 10 [.ref 177, .float t, .int (bI b), u3] [] (mk I J) (some (.int (bI (decide (strT k = txt tp p (e - p))))), mk I J) := fun b u3 h => by
      rw [h]
      simp (disch := first | omega | assumption | exact rfl) only [U_164_10, XX, QQ, WW, KK, QX, SHs, RRs, Nat.reduceAdd, Nat.reduceMul, Nat.reduceLeDiff, Nat.reduceEqDiff, List.length_cons, List.length_nil, decide_true, decide_false, Bool.true_and, Bool.and_true, Bool.false_and, Bool.and_false, false_and, and_false, Bool.false_eq_true, Bool.true_eq_false, reduceCtorEq, eq_self, if_true, if_false, true_and, and_true, not_true_eq_false, not_false_eq_true, if_pos, if_neg, z_ite_not, false_or, or_false, true_or, or_true, SWs, swk_0, swk_1]
    have lp : ∀ i, i ≤ n → (∀ j, j < i → (strT k).getD j 0 = tp (p + j)) → Ev X d 164 4 [.ref 177, .float t, .int (nI 1), .int (nI i)] [] (mk I J) (some (.int (bI (decide (strT k = txt tp p (e - p))))), mk I J) := by
      refine lpd (n := n) (P := fun i => (∀ j, j < i → (strT k).getD j 0 = tp (p + j)) → Ev X d 164 4 [.ref 177, .float t, .int (nI 1), .int (nI i)] [] (mk I J) (some (.int (bI (decide (strT k = txt tp p (e - p))))), mk I J)) ?_ ?_
      · intro h
        have o := out true (.int (nI n)) (decide_eq_true (iff.mpr h))
        have o : Ev X d 164 10 [.ref 177, .float t, .int (nI 1), .int (nI n)] [] (mk I J) (some (.int (bI (decide (strT k = txt tp p (e - p))))), mk I J) := o
        rw [U_164_4]
        simp (disch := first | omega | assumption | exact rfl) only [U_164_4, XX, QQ, WW, KK, QX, SHs, RRs, Nat.reduceAdd, Nat.reduceMul, Nat.reduceLeDiff, Nat.reduceEqDiff, List.length_cons, List.length_nil, decide_true, decide_false, Bool.true_and, Bool.and_true, Bool.false_and, Bool.and_false, false_and, and_false, Bool.false_eq_true, Bool.true_eq_false, reduceCtorEq, eq_self, if_true, if_false, true_and, and_true, not_true_eq_false, not_false_eq_true, if_pos, if_neg, z_ite_not, false_or, or_false, true_or, or_true, SWs, swk_0, swk_1, pl]
        exact o
      · intro i hi ih h
        obtain ⟨y1, y2⟩ := hT (p + i) (by omega)
        have ch := pc (mk I J) i hi
        have cb := lc i (by omega)
        have p4 : p + i < 400 := by omega
        rw [U_164_4]
        by_cases y : (strT k).getD i 0 = tp (p + i)
        · have nx := ih (fun j hj => by
            by_cases w : j = i
            · subst w; exact y
            · exact h j (by omega))
          rw [y] at ch
          simp (disch := first | omega | assumption | exact rfl) only [U_164_5, U_164_6, U_164_7, U_164_9, XX, QQ, WW, KK, QX, SHs, RRs, Nat.reduceAdd, Nat.reduceMul, Nat.reduceLeDiff, Nat.reduceEqDiff, List.length_cons, List.length_nil, decide_true, decide_false, Bool.true_and, Bool.and_true, Bool.false_and, Bool.and_false, false_and, and_false, Bool.false_eq_true, Bool.true_eq_false, reduceCtorEq, eq_self, if_true, if_false, true_and, and_true, not_true_eq_false, not_false_eq_true, if_pos, if_neg, z_ite_not, false_or, or_false, true_or, or_true, SWs, swk_0, swk_1, pl, h15, y2, ch]
          exact nx
        · have f : decide (strT k = txt tp p (e - p)) = false := decide_eq_false (fun q => y (iff.mp q i hi))
          have o := out false (.int (nI (i + 1))) f
          have o : Ev X d 164 10 [.ref 177, .float t, .int (nI 0), .int (nI (i + 1))] [] (mk I J) (some (.int (bI (decide (strT k = txt tp p (e - p))))), mk I J) := o
          have y' : ¬ tp (p + i) = (strT k).getD i 0 := fun q => y q.symm
          have stop : Ev X d 164 4 [.ref 177, .float t, .int (nI 0), .int (nI (i + 1))] [] (mk I J) (some (.int (bI (decide (strT k = txt tp p (e - p))))), mk I J) := by
            rw [U_164_4]
            rcases Nat.lt_or_ge (i + 1) n with w | w
            · simp (disch := first | omega | assumption | exact rfl) only [U_164_5, XX, QQ, WW, KK, QX, SHs, RRs, Nat.reduceAdd, Nat.reduceMul, Nat.reduceLeDiff, Nat.reduceEqDiff, List.length_cons, List.length_nil, decide_true, decide_false, Bool.true_and, Bool.and_true, Bool.false_and, Bool.and_false, false_and, and_false, Bool.false_eq_true, Bool.true_eq_false, reduceCtorEq, eq_self, if_true, if_false, true_and, and_true, not_true_eq_false, not_false_eq_true, if_pos, if_neg, z_ite_not, false_or, or_false, true_or, or_true, SWs, swk_0, swk_1, pl]
              exact o
            · have w' : i + 1 = n := by omega
              rw [w'] at o ⊢
              simp (disch := first | omega | assumption | exact rfl) only [U_164_4, XX, QQ, WW, KK, QX, SHs, RRs, Nat.reduceAdd, Nat.reduceMul, Nat.reduceLeDiff, Nat.reduceEqDiff, List.length_cons, List.length_nil, decide_true, decide_false, Bool.true_and, Bool.and_true, Bool.false_and, Bool.and_false, false_and, and_false, Bool.false_eq_true, Bool.true_eq_false, reduceCtorEq, eq_self, if_true, if_false, true_and, and_true, not_true_eq_false, not_false_eq_true, if_pos, if_neg, z_ite_not, false_or, or_false, true_or, or_true, SWs, swk_0, swk_1, pl]
              exact o
          simp (disch := first | omega | assumption | exact rfl) only [U_164_5, U_164_6, U_164_8, U_164_9, XX, QQ, WW, KK, QX, SHs, RRs, Nat.reduceAdd, Nat.reduceMul, Nat.reduceLeDiff, Nat.reduceEqDiff, List.length_cons, List.length_nil, decide_true, decide_false, Bool.true_and, Bool.and_true, Bool.false_and, Bool.and_false, false_and, and_false, Bool.false_eq_true, Bool.true_eq_false, reduceCtorEq, eq_self, if_true, if_false, true_and, and_true, not_true_eq_false, not_false_eq_true, if_pos, if_neg, z_ite_not, false_or, or_false, true_or, or_true, SWs, swk_0, swk_1, pl, h15, y2, ch, y']
          exact stop
    have st := lp 0 (Nat.zero_le _) (fun j h => by omega)
    rw [z] at st
    simp (disch := first | omega | assumption | exact rfl) only [U_164_0, U_164_1, U_164_3, XX, QQ, WW, KK, QX, SHs, RRs, Nat.reduceAdd, Nat.reduceMul, Nat.reduceLeDiff, Nat.reduceEqDiff, List.length_cons, List.length_nil, decide_true, decide_false, Bool.true_and, Bool.and_true, Bool.false_and, Bool.and_false, false_and, and_false, Bool.false_eq_true, Bool.true_eq_false, reduceCtorEq, eq_self, if_true, if_false, true_and, and_true, not_true_eq_false, not_false_eq_true, if_pos, if_neg, z_ite_not, false_or, or_false, true_or, or_true, SWs, swk_0, swk_1, h13, h15, pl, z]
    exact st
  · have f : decide (strT k = txt tp p (e - p)) = false := decide_eq_false (fun q => z (by rw [en, q, txt_l]))
    rw [f]
    have e31 : e - p < 2 ^ 31 := by omega
    rcases Nat.lt_or_ge 0 n with w | w
    · simp (disch := first | omega | assumption | exact rfl) only [U_164_0, U_164_2, U_164_3, U_164_4, U_164_5, U_164_10, XX, QQ, WW, KK, QX, SHs, RRs, Nat.reduceAdd, Nat.reduceMul, Nat.reduceLeDiff, Nat.reduceEqDiff, List.length_cons, List.length_nil, decide_true, decide_false, Bool.true_and, Bool.and_true, Bool.false_and, Bool.and_false, false_and, and_false, Bool.false_eq_true, Bool.true_eq_false, reduceCtorEq, eq_self, if_true, if_false, true_and, and_true, not_true_eq_false, not_false_eq_true, if_pos, if_neg, z_ite_not, false_or, or_false, true_or, or_true, SWs, swk_0, swk_1, h13, h15, pl, z]
    · have w0 : n = 0 := by omega
      rw [w0] at pl z
      simp (disch := first | omega | assumption | exact rfl) only [U_164_0, U_164_2, U_164_3, U_164_4, U_164_10, XX, QQ, WW, KK, QX, SHs, RRs, Nat.reduceAdd, Nat.reduceMul, Nat.reduceLeDiff, Nat.reduceEqDiff, List.length_cons, List.length_nil, decide_true, decide_false, Bool.true_and, Bool.and_true, Bool.false_and, Bool.and_false, false_and, and_false, Bool.false_eq_true, Bool.true_eq_false, reduceCtorEq, eq_self, if_true, if_false, true_and, and_true, not_true_eq_false, not_false_eq_true, if_pos, if_neg, z_ite_not, false_or, or_false, true_or, or_true, SWs, swk_0, swk_1, h13, h15, pl, z]
/-- the reference's token for a kind of the class -/
def rtk (m : Bool) (k : Nat) : Nat := if k < 3 then k else if k < 256 then 100 + k else if m = true then (if k < 260 then k - 236 else 1) else (if k < 260 then 1 else if k < 267 then k - 240 else if k < 271 then k - 264 else if k < 276 then k - 230 else 1)
theorem rtk_w {m : Bool} {t : List Nat} {w : Nat} (hw : w < 20) (h : strT (w + 2) = t) : rtk m (wdK t) = rtk m (256 + w) := by rw [wdK_is hw h]
theorem wd_c (t : List Nat) : (∃ w, w < 20 ∧ strT (w + 2) = t) ∨ wdK t = 1 := by
  by_cases h : ∃ w, w < 20 ∧ strT (w + 2) = t
  · exact .inl h
  · exact .inr (wdK_no (fun w hw e => h ⟨w, hw, e⟩))
theorem r_shapeWord {X : Nat × (Nat → Int32)} {d : Nat} {I : Nat → Nat → Int32} {J : Nat → Nat → Int64} {tp : Nat → Nat} {tl p e : Nat} (hd : 11 ≤ d) (hT : RTp I tp tl) (h13 : I 177 13 = nI e) (h15 : I 177 15 = nI p) (hpe : p ≤ e) (hel : e ≤ tl) : callF X d 165 [.ref 177] (mk I J) = some (some (.int (nI (rtk true (wdK (txt tp p (e - p)))))), mk I J) := by
  obtain ⟨t, et⟩ : ∃ t, t = txt tp p (e - p) := ⟨_, rfl⟩
  rw [← et]
  refine callF_at (by omega) (by decide) (Nat.le_of_ble_eq_true rfl) (fun d _ => ?_)
  show Ev X d 165 0 [.ref 177] [] ( mk I J) _
  have is : ∀ k, k < 22 → 2 ≤ k → callF X d 164 [.ref 177, .float (UInt32.ofNat k)] (mk I J) = some (some (.int (bI (decide (strT k = t)))), mk I J) := fun k h1 h2 => by rw [et]; exact r_is (by omega) hT h13 h15 hpe hel h1 h2
  have i2 := is 2 (by decide) (by decide)
  have i3 := is 3 (by decide) (by decide)
  have i4 := is 4 (by decide) (by decide)
  have i5 := is 5 (by decide) (by decide)
  by_cases h2 : strT 2 = t
  · rw [rtk_w (w := 0) (by decide) h2]
    rw [decide_eq_true h2] at i2
    simp (disch := first | omega | assumption | exact rfl) only [U_165_0, U_165_1, XX, QQ, WW, KK, QX, SHs, RRs, Nat.reduceAdd, Nat.reduceMul, Nat.reduceLeDiff, Nat.reduceEqDiff, List.length_cons, List.length_nil, decide_true, decide_false, Bool.true_and, Bool.and_true, Bool.false_and, Bool.and_false, false_and, and_false, Bool.false_eq_true, Bool.true_eq_false, reduceCtorEq, eq_self, if_true, if_false, true_and, and_true, not_true_eq_false, not_false_eq_true, if_pos, if_neg, z_ite_not, false_or, or_false, true_or, or_true, SWs, swk_0, swk_1, i2]
    rfl
  · rw [decide_eq_false h2] at i2
    by_cases h3 : strT 3 = t
    · rw [rtk_w (w := 1) (by decide) h3]
      rw [decide_eq_true h3] at i3
      simp (disch := first | omega | assumption | exact rfl) only [U_165_0, U_165_2, U_165_3, XX, QQ, WW, KK, QX, SHs, RRs, Nat.reduceAdd, Nat.reduceMul, Nat.reduceLeDiff, Nat.reduceEqDiff, List.length_cons, List.length_nil, decide_true, decide_false, Bool.true_and, Bool.and_true, Bool.false_and, Bool.and_false, false_and, and_false, Bool.false_eq_true, Bool.true_eq_false, reduceCtorEq, eq_self, if_true, if_false, true_and, and_true, not_true_eq_false, not_false_eq_true, if_pos, if_neg, z_ite_not, false_or, or_false, true_or, or_true, SWs, swk_0, swk_1, i2, i3]
      rfl
    · rw [decide_eq_false h3] at i3
      by_cases h4 : strT 4 = t
      · rw [rtk_w (w := 2) (by decide) h4]
        rw [decide_eq_true h4] at i4
        simp (disch := first | omega | assumption | exact rfl) only [U_165_0, U_165_2, U_165_4, U_165_5, XX, QQ, WW, KK, QX, SHs, RRs, Nat.reduceAdd, Nat.reduceMul, Nat.reduceLeDiff, Nat.reduceEqDiff, List.length_cons, List.length_nil, decide_true, decide_false, Bool.true_and, Bool.and_true, Bool.false_and, Bool.and_false, false_and, and_false, Bool.false_eq_true, Bool.true_eq_false, reduceCtorEq, eq_self, if_true, if_false, true_and, and_true, not_true_eq_false, not_false_eq_true, if_pos, if_neg, z_ite_not, false_or, or_false, true_or, or_true, SWs, swk_0, swk_1, i2, i3, i4]
        rfl
      · rw [decide_eq_false h4] at i4
        by_cases h5 : strT 5 = t
        · rw [rtk_w (w := 3) (by decide) h5]
          rw [decide_eq_true h5] at i5
          simp (disch := first | omega | assumption | exact rfl) only [U_165_0, U_165_2, U_165_4, U_165_6, U_165_7, U_165_9, XX, QQ, WW, KK, QX, SHs, RRs, Nat.reduceAdd, Nat.reduceMul, Nat.reduceLeDiff, Nat.reduceEqDiff, List.length_cons, List.length_nil, decide_true, decide_false, Bool.true_and, Bool.and_true, Bool.false_and, Bool.and_false, false_and, and_false, Bool.false_eq_true, Bool.true_eq_false, reduceCtorEq, eq_self, if_true, if_false, true_and, and_true, not_true_eq_false, not_false_eq_true, if_pos, if_neg, z_ite_not, false_or, or_false, true_or, or_true, SWs, swk_0, swk_1, i2, i3, i4, i5]
          rfl
        · rw [decide_eq_false h5] at i5
          have r : rtk true (wdK t) = 1 := by
            rcases wd_c t with ⟨w, hw, h⟩ | h
            · rw [rtk_w hw h]
              have : 4 ≤ w := by
                rcases (by omega : w = 0 ∨ w = 1 ∨ w = 2 ∨ w = 3 ∨ 4 ≤ w) with q | q | q | q | q
                · subst q; exact absurd h h2
                · subst q; exact absurd h h3
                · subst q; exact absurd h h4
                · subst q; exact absurd h h5
                · exact q
              unfold rtk
              rw [if_neg (by omega), if_neg (by omega), if_pos rfl, if_neg (by omega)]
            · rw [h]; rfl
          rw [r]
          simp (disch := first | omega | assumption | exact rfl) only [U_165_0, U_165_2, U_165_4, U_165_6, U_165_8, U_165_9, XX, QQ, WW, KK, QX, SHs, RRs, Nat.reduceAdd, Nat.reduceMul, Nat.reduceLeDiff, Nat.reduceEqDiff, List.length_cons, List.length_nil, decide_true, decide_false, Bool.true_and, Bool.and_true, Bool.false_and, Bool.and_false, false_and, and_false, Bool.false_eq_true, Bool.true_eq_false, reduceCtorEq, eq_self, if_true, if_false, true_and, and_true, not_true_eq_false, not_false_eq_true, if_pos, if_neg, z_ite_not, false_or, or_false, true_or, or_true, SWs, swk_0, swk_1, i2, i3, i4, i5]
