/-! ===== tokens: the class's small words ===== -/
theorem s_ltr {X : Nat × (Nat → Int32)} {d : Nat} {M : Mem} {c : Nat} (hd : 1 ≤ d) (hc : c < 2 ^ 31) : callF X d 85 [.int (nI c)] M = some (some (.int (bI (ltr c))), M) := by
  refine callF_at (by omega) (by decide) (Nat.le_of_ble_eq_true rfl) (fun d _ => ?_)
  show Ev X d 85 0 [.int (nI c)] [] M _
  unfold ltr
  by_cases a : c < 97
  · by_cases b : c < 65
    · rw [decide_eq_false (by omega : ¬ 97 ≤ c), decide_eq_false (by omega : ¬ 65 ≤ c)]
      simp (disch := first | omega | assumption | exact rfl) only [U_85_0, U_85_2, U_85_5, U_85_6, XX, QQ, WW, KK, QX, SHs, RRs, Nat.reduceAdd, Nat.reduceMul, Nat.reduceLeDiff, Nat.reduceEqDiff, List.length_cons, List.length_nil, decide_true, decide_false, Bool.true_and, Bool.and_true, Bool.false_and, Bool.and_false, false_and, and_false, Bool.false_eq_true, Bool.true_eq_false, reduceCtorEq, eq_self, if_true, if_false, true_and, and_true, not_true_eq_false, not_false_eq_true, if_pos, if_neg, z_ite_not, false_or, or_false, true_or, or_true, SWs, swk_0, swk_1]
      rfl
    · by_cases e : c ≤ 90
      · rw [decide_eq_true (by omega : 65 ≤ c), decide_eq_true e, Bool.and_self, Bool.or_true]
        simp (disch := first | omega | assumption | exact rfl) only [U_85_0, U_85_2, U_85_3, U_85_4, U_85_6, XX, QQ, WW, KK, QX, SHs, RRs, Nat.reduceAdd, Nat.reduceMul, Nat.reduceLeDiff, Nat.reduceEqDiff, List.length_cons, List.length_nil, decide_true, decide_false, Bool.true_and, Bool.and_true, Bool.false_and, Bool.and_false, false_and, and_false, Bool.false_eq_true, Bool.true_eq_false, reduceCtorEq, eq_self, if_true, if_false, true_and, and_true, not_true_eq_false, not_false_eq_true, if_pos, if_neg, z_ite_not, false_or, or_false, true_or, or_true, SWs, swk_0, swk_1, b]
      · rw [decide_eq_false (by omega : ¬ 97 ≤ c), decide_eq_false e, Bool.and_false]
        simp (disch := first | omega | assumption | exact rfl) only [U_85_0, U_85_2, U_85_3, U_85_5, U_85_6, XX, QQ, WW, KK, QX, SHs, RRs, Nat.reduceAdd, Nat.reduceMul, Nat.reduceLeDiff, Nat.reduceEqDiff, List.length_cons, List.length_nil, decide_true, decide_false, Bool.true_and, Bool.and_true, Bool.false_and, Bool.and_false, false_and, and_false, Bool.false_eq_true, Bool.true_eq_false, reduceCtorEq, eq_self, if_true, if_false, true_and, and_true, not_true_eq_false, not_false_eq_true, if_pos, if_neg, z_ite_not, false_or, or_false, true_or, or_true, SWs, swk_0, swk_1, b, e]
        rfl
  · by_cases b : c ≤ 122
    · rw [decide_eq_true (by omega : 97 ≤ c), decide_eq_true b]
      simp (disch := first | omega | assumption | exact rfl) only [U_85_0, U_85_1, U_85_4, U_85_6, XX, QQ, WW, KK, QX, SHs, RRs, Nat.reduceAdd, Nat.reduceMul, Nat.reduceLeDiff, Nat.reduceEqDiff, List.length_cons, List.length_nil, decide_true, decide_false, Bool.true_and, Bool.and_true, Bool.false_and, Bool.and_false, false_and, and_false, Bool.false_eq_true, Bool.true_eq_false, reduceCtorEq, eq_self, if_true, if_false, true_and, and_true, not_true_eq_false, not_false_eq_true, if_pos, if_neg, z_ite_not, false_or, or_false, true_or, or_true, SWs, swk_0, swk_1, a]
      rfl
    · rw [decide_eq_false b, decide_eq_false (by omega : ¬ c ≤ 90), Bool.and_false, Bool.and_false]
      have h1 : ¬ c < 65 := by omega
      have h2 : ¬ c ≤ 90 := by omega
      simp (disch := first | omega | assumption | exact rfl) only [U_85_0, U_85_1, U_85_2, U_85_3, U_85_5, U_85_6, XX, QQ, WW, KK, QX, SHs, RRs, Nat.reduceAdd, Nat.reduceMul, Nat.reduceLeDiff, Nat.reduceEqDiff, List.length_cons, List.length_nil, decide_true, decide_false, Bool.true_and, Bool.and_true, Bool.false_and, Bool.and_false, false_and, and_false, Bool.false_eq_true, Bool.true_eq_false, reduceCtorEq, eq_self, if_true, if_false, true_and, and_true, not_true_eq_false, not_false_eq_true, if_pos, if_neg, z_ite_not, false_or, or_false, true_or, or_true, SWs, swk_0, swk_1, a, b, h1, h2]
      rfl
theorem s_dgt {X : Nat × (Nat → Int32)} {d : Nat} {M : Mem} {c : Nat} (hd : 1 ≤ d) (hc : c < 2 ^ 31) : callF X d 86 [.int (nI c)] M = some (some (.int (bI (dgt c))), M) := by
  refine callF_at (by omega) (by decide) (Nat.le_of_ble_eq_true rfl) (fun d _ => ?_)
  show Ev X d 86 0 [.int (nI c)] [] M _
  unfold dgt
  by_cases a : c < 48
  · rw [decide_eq_false (by omega : ¬ 48 ≤ c)]
    simp (disch := first | omega | assumption | exact rfl) only [U_86_0, U_86_3, U_86_4, XX, QQ, WW, KK, QX, SHs, RRs, Nat.reduceAdd, Nat.reduceMul, Nat.reduceLeDiff, Nat.reduceEqDiff, List.length_cons, List.length_nil, decide_true, decide_false, Bool.true_and, Bool.and_true, Bool.false_and, Bool.and_false, false_and, and_false, Bool.false_eq_true, Bool.true_eq_false, reduceCtorEq, eq_self, if_true, if_false, true_and, and_true, not_true_eq_false, not_false_eq_true, if_pos, if_neg, z_ite_not, false_or, or_false, true_or, or_true, SWs, swk_0, swk_1]
  · by_cases b : c ≤ 57
    · rw [decide_eq_true (by omega : 48 ≤ c), decide_eq_true b]
      simp (disch := first | omega | assumption | exact rfl) only [U_86_0, U_86_1, U_86_2, U_86_4, XX, QQ, WW, KK, QX, SHs, RRs, Nat.reduceAdd, Nat.reduceMul, Nat.reduceLeDiff, Nat.reduceEqDiff, List.length_cons, List.length_nil, decide_true, decide_false, Bool.true_and, Bool.and_true, Bool.false_and, Bool.and_false, false_and, and_false, Bool.false_eq_true, Bool.true_eq_false, reduceCtorEq, eq_self, if_true, if_false, true_and, and_true, not_true_eq_false, not_false_eq_true, if_pos, if_neg, z_ite_not, false_or, or_false, true_or, or_true, SWs, swk_0, swk_1, a]
    · rw [decide_eq_false b, Bool.and_false]
      simp (disch := first | omega | assumption | exact rfl) only [U_86_0, U_86_1, U_86_3, U_86_4, XX, QQ, WW, KK, QX, SHs, RRs, Nat.reduceAdd, Nat.reduceMul, Nat.reduceLeDiff, Nat.reduceEqDiff, List.length_cons, List.length_nil, decide_true, decide_false, Bool.true_and, Bool.and_true, Bool.false_and, Bool.and_false, false_and, and_false, Bool.false_eq_true, Bool.true_eq_false, reduceCtorEq, eq_self, if_true, if_false, true_and, and_true, not_true_eq_false, not_false_eq_true, if_pos, if_neg, z_ite_not, false_or, or_false, true_or, or_true, SWs, swk_0, swk_1, a, b]
/-- the class's tape -/
def TPc (I : Nat → Nat → Int32) (tp : Nat → Nat) (tl : Nat) : Prop := tl ≤ 400 ∧ ∀ i, i < tl → tp i < 256 ∧ I 123 i = nI (tp i)
theorem c_runFrom {X : Nat × (Nat → Int32)} {d : Nat} {I : Nat → Nat → Int32} {J : Nat → Nat → Int64} {tp : Nat → Nat} {tl p : Nat} (hd : 2 ≤ d) (hT : TPc I tp tl) (hp : p < tl) : callF X d 87 [.ref 123, .int (nI tl), .int (nI p)] (mk I J) = some (some (.int (nI ((if ltr (tp p) = true then rnE ltr tp tl p else rnE dgt tp tl p) - p))), mk I J) := by
  obtain ⟨h400, hT⟩ := hT
  refine callF_at (by omega) (by decide) (Nat.le_of_ble_eq_true rfl) (fun d _ => ?_)
  show Ev X d 87 0 [.ref 123, .int (nI tl), .int (nI p), .retAddr 0, .retAddr 0] [] ( mk I J) _
  obtain ⟨tp1, tp2⟩ := hT p hp
  have p400 : p < 400 := by omega
  have l0 := fun M => s_ltr (X := X) (d := d) (M := M) (c := tp p) (by omega) (by omega)
  cases lt : ltr (tp p) with
  | true =>
    rw [lt] at l0
    obtain ⟨x1, x2, x3, x4⟩ := rnE_s (P := ltr) (tp := tp) (tl := tl) (p := p) (by omega)
    rw [if_pos rfl]
    obtain ⟨e, ee⟩ : ∃ e, e = rnE ltr tp tl p := ⟨_, rfl⟩
    rw [← ee] at x1 x2 x3 x4 ⊢
    have lp : ∀ k, k ≤ e → p ≤ k → Ev X d 87 1 [.ref 123, .int (nI tl), .int (nI p), .int (nI k), .int (nI 1)] [] (mk I J) (some (.int (nI (e - p))), mk I J) := by
      refine lpd (n := e) (P := fun k => p ≤ k → Ev X d 87 1 [.ref 123, .int (nI tl), .int (nI p), .int (nI k), .int (nI 1)] [] (mk I J) (some (.int (nI (e - p))), mk I J)) ?_ ?_
      · intro _
        rw [U_87_1]
        rcases Nat.lt_or_ge e tl with q | q
        · obtain ⟨y1, y2⟩ := hT e q
          have l1 := fun M => s_ltr (X := X) (d := d) (M := M) (c := tp e) (by omega) (by omega)
          rw [x4 q] at l1
          have e400 : e < 400 := by omega
          simp (disch := first | omega | assumption | exact rfl) only [U_87_2, U_87_3, U_87_4, U_87_8, XX, QQ, WW, KK, QX, SHs, RRs, Nat.reduceAdd, Nat.reduceMul, Nat.reduceLeDiff, Nat.reduceEqDiff, List.length_cons, List.length_nil, decide_true, decide_false, Bool.true_and, Bool.and_true, Bool.false_and, Bool.and_false, false_and, and_false, Bool.false_eq_true, Bool.true_eq_false, reduceCtorEq, eq_self, if_true, if_false, true_and, and_true, not_true_eq_false, not_false_eq_true, if_pos, if_neg, z_ite_not, false_or, or_false, true_or, or_true, SWs, swk_0, swk_1, y2, l1]
        · have q' : e = tl := by omega
          rw [q']
          simp (disch := first | omega | assumption | exact rfl) only [U_87_8, XX, QQ, WW, KK, QX, SHs, RRs, Nat.reduceAdd, Nat.reduceMul, Nat.reduceLeDiff, Nat.reduceEqDiff, List.length_cons, List.length_nil, decide_true, decide_false, Bool.true_and, Bool.and_true, Bool.false_and, Bool.and_false, false_and, and_false, Bool.false_eq_true, Bool.true_eq_false, reduceCtorEq, eq_self, if_true, if_false, true_and, and_true, not_true_eq_false, not_false_eq_true, if_pos, if_neg, z_ite_not, false_or, or_false, true_or, or_true, SWs, swk_0, swk_1]
      · intro k hk ih pk
        have ih := ih (by omega)
        have k1 : k < tl := by omega
        obtain ⟨y1, y2⟩ := hT k k1
        have l1 := fun M => s_ltr (X := X) (d := d) (M := M) (c := tp k) (by omega) (by omega)
        rw [x3 k pk hk] at l1
        have k400 : k < 400 := by omega
        rw [U_87_1]
        simp (disch := first | omega | assumption | exact rfl) only [U_87_2, U_87_3, U_87_4, U_87_5, U_87_7, XX, QQ, WW, KK, QX, SHs, RRs, Nat.reduceAdd, Nat.reduceMul, Nat.reduceLeDiff, Nat.reduceEqDiff, List.length_cons, List.length_nil, decide_true, decide_false, Bool.true_and, Bool.and_true, Bool.false_and, Bool.and_false, false_and, and_false, Bool.false_eq_true, Bool.true_eq_false, reduceCtorEq, eq_self, if_true, if_false, true_and, and_true, not_true_eq_false, not_false_eq_true, if_pos, if_neg, z_ite_not, false_or, or_false, true_or, or_true, SWs, swk_0, swk_1, y2, l1]
        exact ih
    have st := lp p x1 (Nat.le_refl _)
    simp (disch := first | omega | assumption | exact rfl) only [U_87_0, XX, QQ, WW, KK, QX, SHs, RRs, Nat.reduceAdd, Nat.reduceMul, Nat.reduceLeDiff, Nat.reduceEqDiff, List.length_cons, List.length_nil, decide_true, decide_false, Bool.true_and, Bool.and_true, Bool.false_and, Bool.and_false, false_and, and_false, Bool.false_eq_true, Bool.true_eq_false, reduceCtorEq, eq_self, if_true, if_false, true_and, and_true, not_true_eq_false, not_false_eq_true, if_pos, if_neg, z_ite_not, false_or, or_false, true_or, or_true, SWs, swk_0, swk_1, tp2, l0]
    exact st
  | false =>
    rw [lt] at l0
    obtain ⟨x1, x2, x3, x4⟩ := rnE_s (P := dgt) (tp := tp) (tl := tl) (p := p) (by omega)
    rw [if_neg (by decide)]
    obtain ⟨e, ee⟩ : ∃ e, e = rnE dgt tp tl p := ⟨_, rfl⟩
    rw [← ee] at x1 x2 x3 x4 ⊢
    have lp : ∀ k, k ≤ e → p ≤ k → Ev X d 87 1 [.ref 123, .int (nI tl), .int (nI p), .int (nI k), .int (nI 0)] [] (mk I J) (some (.int (nI (e - p))), mk I J) := by
      refine lpd (n := e) (P := fun k => p ≤ k → Ev X d 87 1 [.ref 123, .int (nI tl), .int (nI p), .int (nI k), .int (nI 0)] [] (mk I J) (some (.int (nI (e - p))), mk I J)) ?_ ?_
      · intro _
        rw [U_87_1]
        rcases Nat.lt_or_ge e tl with q | q
        · obtain ⟨y1, y2⟩ := hT e q
          have l1 := fun M => s_dgt (X := X) (d := d) (M := M) (c := tp e) (by omega) (by omega)
          rw [x4 q] at l1
          have e400 : e < 400 := by omega
          simp (disch := first | omega | assumption | exact rfl) only [U_87_2, U_87_3, U_87_6, U_87_8, XX, QQ, WW, KK, QX, SHs, RRs, Nat.reduceAdd, Nat.reduceMul, Nat.reduceLeDiff, Nat.reduceEqDiff, List.length_cons, List.length_nil, decide_true, decide_false, Bool.true_and, Bool.and_true, Bool.false_and, Bool.and_false, false_and, and_false, Bool.false_eq_true, Bool.true_eq_false, reduceCtorEq, eq_self, if_true, if_false, true_and, and_true, not_true_eq_false, not_false_eq_true, if_pos, if_neg, z_ite_not, false_or, or_false, true_or, or_true, SWs, swk_0, swk_1, y2, l1]
        · have q' : e = tl := by omega
          rw [q']
          simp (disch := first | omega | assumption | exact rfl) only [U_87_8, XX, QQ, WW, KK, QX, SHs, RRs, Nat.reduceAdd, Nat.reduceMul, Nat.reduceLeDiff, Nat.reduceEqDiff, List.length_cons, List.length_nil, decide_true, decide_false, Bool.true_and, Bool.and_true, Bool.false_and, Bool.and_false, false_and, and_false, Bool.false_eq_true, Bool.true_eq_false, reduceCtorEq, eq_self, if_true, if_false, true_and, and_true, not_true_eq_false, not_false_eq_true, if_pos, if_neg, z_ite_not, false_or, or_false, true_or, or_true, SWs, swk_0, swk_1]
      · intro k hk ih pk
        have ih := ih (by omega)
        have k1 : k < tl := by omega
        obtain ⟨y1, y2⟩ := hT k k1
        have l1 := fun M => s_dgt (X := X) (d := d) (M := M) (c := tp k) (by omega) (by omega)
        rw [x3 k pk hk] at l1
        have k400 : k < 400 := by omega
        rw [U_87_1]
        simp (disch := first | omega | assumption | exact rfl) only [U_87_2, U_87_3, U_87_6, U_87_7, XX, QQ, WW, KK, QX, SHs, RRs, Nat.reduceAdd, Nat.reduceMul, Nat.reduceLeDiff, Nat.reduceEqDiff, List.length_cons, List.length_nil, decide_true, decide_false, Bool.true_and, Bool.and_true, Bool.false_and, Bool.and_false, false_and, and_false, Bool.false_eq_true, Bool.true_eq_false, reduceCtorEq, eq_self, if_true, if_false, true_and, and_true, not_true_eq_false, not_false_eq_true, if_pos, if_neg, z_ite_not, false_or, or_false, true_or, or_true, SWs, swk_0, swk_1, y2, l1]
        exact ih
    have st := lp p x1 (Nat.le_refl _)
    simp (disch := first | omega | assumption | exact rfl) only [U_87_0, XX, QQ, WW, KK, QX, SHs, RRs, Nat.reduceAdd, Nat.reduceMul, Nat.reduceLeDiff, Nat.reduceEqDiff, List.length_cons, List.length_nil, decide_true, decide_false, Bool.true_and, Bool.and_true, Bool.false_and, Bool.and_false, false_and, and_false, Bool.false_eq_true, Bool.true_eq_false, reduceCtorEq, eq_self, if_true, if_false, true_and, and_true, not_true_eq_false, not_false_eq_true, if_pos, if_neg, z_ite_not, false_or, or_false, true_or, or_true, SWs, swk_0, swk_1, tp2, l0]
    exact st
theorem nmV_le {tp : Nat → Nat} {p : Nat} : ∀ n, (∀ k, k < n → dgt (tp (p + k)) = true) → nmV tp p n < 10 ^ n
  | 0, _ => by show 0 < 10 ^ 0; decide
  | n + 1, h => by
    have ih := nmV_le n (fun k hk => h k (by omega))
    have d := h n (by omega)
    unfold dgt at d
    rw [Bool.and_eq_true, decide_eq_true_iff, decide_eq_true_iff] at d
    unfold nmV
    rw [Nat.pow_succ]
    omega
theorem c_numberOf {X : Nat × (Nat → Int32)} {d : Nat} {I : Nat → Nat → Int32} {J : Nat → Nat → Int64} {tp : Nat → Nat} {tl p n m : Nat} (hd : 2 ≤ d) (hT : TPc I tp tl) (hn : p + n ≤ tl) (hm : m = if n < 4 then n else 4) (hD : ∀ k, k < n → dgt (tp (p + k)) = true) : callF X d 89 [.ref 123, .int (nI p), .int (nI n)] (mk I J) = some (some (.int (nI (nmV tp p m))), mk I J) := by
  obtain ⟨h400, hT⟩ := hT
  have hmm : m ≤ n ∧ m ≤ 4 ∧ (m = n ∨ m = 4) := by rw [hm]; split <;> omega
  refine callF_at (by omega) (by decide) (Nat.le_of_ble_eq_true rfl) (fun d _ => ?_)
  show Ev X d 89 0 [.ref 123, .int (nI p), .int (nI n), .retAddr 0, .retAddr 0] [] ( mk I J) _
  have lp : Ev X d 89 1 [.ref 123, .int (nI p), .int (nI n), .int (nI 0), .int (nI p)] [] (mk I J) (some (.int (nI (nmV tp p m))), mk I J) := by
    refine lpI (n := m) (P := fun k => Ev X d 89 1 [.ref 123, .int (nI p), .int (nI n), .int (nI (nmV tp p k)), .int (nI (p + k))] [] (mk I J) (some (.int (nI (nmV tp p m))), mk I J)) ?_ ?_ (fun Q => Q)
    · rw [U_89_1]
      rcases hmm.2.2 with q | q
      · rw [q]
        simp (disch := first | omega | assumption | exact rfl) only [U_89_5, XX, QQ, WW, KK, QX, SHs, RRs, Nat.reduceAdd, Nat.reduceMul, Nat.reduceLeDiff, Nat.reduceEqDiff, List.length_cons, List.length_nil, decide_true, decide_false, Bool.true_and, Bool.and_true, Bool.false_and, Bool.and_false, false_and, and_false, Bool.false_eq_true, Bool.true_eq_false, reduceCtorEq, eq_self, if_true, if_false, true_and, and_true, not_true_eq_false, not_false_eq_true, if_pos, if_neg, z_ite_not, false_or, or_false, true_or, or_true, SWs, swk_0, swk_1]
      · rcases Nat.lt_or_ge m n with w | w
        · have w2 : p + m < p + n := by omega
          have w3 : p + m = p + 4 := by omega
          rw [w3] at w2 ⊢
          rw [q]
          simp (disch := first | omega | assumption | exact rfl) only [U_89_2, U_89_5, XX, QQ, WW, KK, QX, SHs, RRs, Nat.reduceAdd, Nat.reduceMul, Nat.reduceLeDiff, Nat.reduceEqDiff, List.length_cons, List.length_nil, decide_true, decide_false, Bool.true_and, Bool.and_true, Bool.false_and, Bool.and_false, false_and, and_false, Bool.false_eq_true, Bool.true_eq_false, reduceCtorEq, eq_self, if_true, if_false, true_and, and_true, not_true_eq_false, not_false_eq_true, if_pos, if_neg, z_ite_not, false_or, or_false, true_or, or_true, SWs, swk_0, swk_1]
        · have : m = n := by omega
          rw [this]
          simp (disch := first | omega | assumption | exact rfl) only [U_89_5, XX, QQ, WW, KK, QX, SHs, RRs, Nat.reduceAdd, Nat.reduceMul, Nat.reduceLeDiff, Nat.reduceEqDiff, List.length_cons, List.length_nil, decide_true, decide_false, Bool.true_and, Bool.and_true, Bool.false_and, Bool.and_false, false_and, and_false, Bool.false_eq_true, Bool.true_eq_false, reduceCtorEq, eq_self, if_true, if_false, true_and, and_true, not_true_eq_false, not_false_eq_true, if_pos, if_neg, z_ite_not, false_or, or_false, true_or, or_true, SWs, swk_0, swk_1]
    · intro k hk ih
      have b := nmV_le (tp := tp) (p := p) k (fun j hj => hD j (by omega))
      have b2 : 10 ^ k ≤ 10 ^ 4 := Nat.pow_le_pow_right (by decide) (by omega)
      obtain ⟨y1, y2⟩ := hT (p + k) (by omega)
      have dk := hD k (by omega)
      unfold dgt at dk
      rw [Bool.and_eq_true, decide_eq_true_iff, decide_eq_true_iff] at dk
      have k1 : p + k < p + n := by omega
      have k2 : p + k < p + 4 := by omega
      have k3 : p + k < 400 := by omega
      obtain ⟨v, ev⟩ : ∃ v, v = nmV tp p k := ⟨_, rfl⟩
      have es : nmV tp p (k + 1) = 10 * v + tp (p + k) - 48 := by rw [nmV, ev]; omega
      rw [es] at ih
      rw [← ev] at b ⊢
      rw [U_89_1]
      simp (disch := first | omega | assumption | exact rfl) only [U_89_2, U_89_3, U_89_4, XX, QQ, WW, KK, QX, SHs, RRs, Nat.reduceAdd, Nat.reduceMul, Nat.reduceLeDiff, Nat.reduceEqDiff, List.length_cons, List.length_nil, decide_true, decide_false, Bool.true_and, Bool.and_true, Bool.false_and, Bool.and_false, false_and, and_false, Bool.false_eq_true, Bool.true_eq_false, reduceCtorEq, eq_self, if_true, if_false, true_and, and_true, not_true_eq_false, not_false_eq_true, if_pos, if_neg, z_ite_not, false_or, or_false, true_or, or_true, SWs, swk_0, swk_1, y2]
      exact ih
  simp (disch := first | omega | assumption | exact rfl) only [U_89_0, XX, QQ, WW, KK, QX, SHs, RRs, Nat.reduceAdd, Nat.reduceMul, Nat.reduceLeDiff, Nat.reduceEqDiff, List.length_cons, List.length_nil, decide_true, decide_false, Bool.true_and, Bool.and_true, Bool.false_and, Bool.and_false, false_and, and_false, Bool.false_eq_true, Bool.true_eq_false, reduceCtorEq, eq_self, if_true, if_false, true_and, and_true, not_true_eq_false, not_false_eq_true, if_pos, if_neg, z_ite_not, false_or, or_false, true_or, or_true, SWs, swk_0, swk_1]
  exact lp
