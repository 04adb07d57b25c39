/-! ===== walls of the class ===== -/
theorem s_isOf {X : Nat × (Nat → Int32)} {d : Nat} {M : Mem} {v b : Int32} (hd : 1 ≤ d) : callF X d 152 [.int v, .int b] M = some (some (.int (bI (decide (0 ≤ v) && decide (v < b)))), M) := by
  refine callF_at (by omega) (by decide) (Nat.le_of_ble_eq_true rfl) (fun d _ => ?_)
  show Ev X d 152 0 [.int v, .int b] [] M _
  simp (disch := first | omega | assumption | exact rfl) only [U_152_0, U_152_1, U_152_2, U_152_3, U_152_4, XX, QQ, WW, KK, QX, SHs, RRs, Nat.reduceAdd, Nat.reduceMul, Nat.reduceLeDiff, Nat.reduceEqDiff, List.length_cons, List.length_nil, decide_true, decide_false, Bool.true_and, Bool.and_true, Bool.false_and, Bool.and_false, false_and, and_false, Bool.false_eq_true, Bool.true_eq_false, reduceCtorEq, eq_self, if_true, if_false, true_and, and_true, not_true_eq_false, not_false_eq_true, if_pos, if_neg, z_ite_not]
  by_cases h1 : v < 0
  · rw [if_pos h1, decide_eq_false (fun z => (fa_of_lt h1).2.1 z)]; rfl
  · rw [if_neg h1, decide_eq_true (fa_of_nlt h1)]
    by_cases h2 : b ≤ v
    · rw [if_pos h2, decide_eq_false (fun z => (fa_of_lt z).2.1 h2)]; rfl
    · rw [if_neg h2, decide_eq_true (fa_of_nle h2)]; rfl
/-- an int against a count: inside, below, or above -/
theorem of_c (v : Int32) (c : Nat) (hc : c < 2 ^ 31) : (∃ j, j < c ∧ v = nI j) ∨ (v < 0 ∧ ¬ 0 ≤ v) ∨ (¬ v < 0 ∧ 0 ≤ v ∧ nI c ≤ v ∧ ¬ v < nI c) := by
  by_cases h : v < 0
  · exact .inr (.inl ⟨h, fun z => (fa_of_lt h).2.1 z⟩)
  · by_cases h2 : nI c ≤ v
    · exact .inr (.inr ⟨h, fa_of_nlt h, h2, fun z => (fa_of_lt z).2.1 h2⟩)
    · obtain ⟨j, hj, rfl⟩ := nI_of h
      refine .inl ⟨j, ?_, rfl⟩
      rw [nI_leI hc hj] at h2
      omega
theorem s_xOf {X : Nat × (Nat → Int32)} {d : Nat} {M : Mem} {p : Nat} (hd : 1 ≤ d) : callF X d 0 [.int (nI p)] M = some (some (.int (nI (p % 8))), M) := by
  refine callF_at (by omega) (by decide) (Nat.le_of_ble_eq_true rfl) (fun d _ => ?_)
  show Ev X d 0 0 [.int (nI p)] [] M _
  simp (disch := first | omega | assumption | exact rfl) only [U_0_0, XX, QQ, WW, KK, QX, SHs, RRs, Nat.reduceAdd, Nat.reduceMul, Nat.reduceLeDiff, Nat.reduceEqDiff, List.length_cons, List.length_nil, decide_true, decide_false, Bool.true_and, Bool.and_true, Bool.false_and, Bool.and_false, false_and, and_false, Bool.false_eq_true, Bool.true_eq_false, reduceCtorEq, eq_self, if_true, if_false, true_and, and_true, not_true_eq_false, not_false_eq_true, if_pos, if_neg, z_ite_not]
  rw [fa_and, show (7 : Nat) = 2 ^ 3 - 1 from rfl, Nat.and_two_pow_sub_one_eq_mod]
theorem s_yOf {X : Nat × (Nat → Int32)} {d : Nat} {M : Mem} {p : Nat} (hd : 1 ≤ d) (hp : p < 2 ^ 31) : callF X d 1 [.int (nI p)] M = some (some (.int (nI (p / 8))), M) := by
  refine callF_at (by omega) (by decide) (Nat.le_of_ble_eq_true rfl) (fun d _ => ?_)
  show Ev X d 1 0 [.int (nI p)] [] M _
  simp (disch := first | omega | assumption | exact rfl) only [U_1_0, XX, QQ, WW, KK, QX, SHs, RRs, Nat.reduceAdd, Nat.reduceMul, Nat.reduceLeDiff, Nat.reduceEqDiff, List.length_cons, List.length_nil, decide_true, decide_false, Bool.true_and, Bool.and_true, Bool.false_and, Bool.and_false, false_and, and_false, Bool.false_eq_true, Bool.true_eq_false, reduceCtorEq, eq_self, if_true, if_false, true_and, and_true, not_true_eq_false, not_false_eq_true, if_pos, if_neg, z_ite_not]
theorem tb64 {F q : Nat} (hF : F < 2 ^ 64) (hq : 64 ≤ q) : F.testBit q = false := Nat.testBit_lt_two_pow (Nat.lt_of_lt_of_le hF (Nat.pow_le_pow_right (by decide) hq))
theorem s_has {X : Nat × (Nat → Int32)} {d : Nat} {M : Mem} {F q : Nat} (hd : 1 ≤ d) (hF : F < 2 ^ 64) (hq : q < 2 ^ 31) : callF X d 2 [.long (lN F), .int (nI q)] M = some (some (.int (bI (F.testBit q))), M) := by
  refine callF_at (by omega) (by decide) (Nat.le_of_ble_eq_true rfl) (fun d _ => ?_)
  show Ev X d 2 0 [.long (lN F), .retAddr 0, .int (nI q)] [] M _
  rcases Nat.lt_or_ge q 64 with h | h
  · simp (disch := first | omega | assumption | exact rfl) only [U_2_0, U_2_1, U_2_2, U_2_3, U_2_4, U_2_5, XX, QQ, WW, KK, QX, SHs, RRs, Nat.reduceAdd, Nat.reduceMul, Nat.reduceLeDiff, Nat.reduceEqDiff, List.length_cons, List.length_nil, decide_true, decide_false, Bool.true_and, Bool.and_true, Bool.false_and, Bool.and_false, false_and, and_false, Bool.false_eq_true, Bool.true_eq_false, reduceCtorEq, eq_self, if_true, if_false, true_and, and_true, not_true_eq_false, not_false_eq_true, if_pos, if_neg, z_ite_not]
    cases F.testBit q <;> rfl
  · rw [tb64 hF h]
    simp (disch := first | omega | assumption | exact rfl) only [U_2_0, U_2_1, U_2_2, U_2_3, U_2_4, U_2_5, XX, QQ, WW, KK, QX, SHs, RRs, Nat.reduceAdd, Nat.reduceMul, Nat.reduceLeDiff, Nat.reduceEqDiff, List.length_cons, List.length_nil, decide_true, decide_false, Bool.true_and, Bool.and_true, Bool.false_and, Bool.and_false, false_and, and_false, Bool.false_eq_true, Bool.true_eq_false, reduceCtorEq, eq_self, if_true, if_false, true_and, and_true, not_true_eq_false, not_false_eq_true, if_pos, if_neg, z_ite_not]
theorem s_has_neg {X : Nat × (Nat → Int32)} {d : Nat} {M : Mem} {F : Nat} {v : Int32} (hd : 1 ≤ d) (hv : v < 0) : callF X d 2 [.long (lN F), .int v] M = some (some (.int (bI false)), M) := by
  refine callF_at (by omega) (by decide) (Nat.le_of_ble_eq_true rfl) (fun d _ => ?_)
  show Ev X d 2 0 [.long (lN F), .retAddr 0, .int v] [] M _
  simp (disch := first | omega | assumption | exact rfl) only [U_2_0, U_2_1, U_2_2, U_2_3, U_2_4, U_2_5, XX, QQ, WW, KK, QX, SHs, RRs, Nat.reduceAdd, Nat.reduceMul, Nat.reduceLeDiff, Nat.reduceEqDiff, List.length_cons, List.length_nil, decide_true, decide_false, Bool.true_and, Bool.and_true, Bool.false_and, Bool.and_false, false_and, and_false, Bool.false_eq_true, Bool.true_eq_false, reduceCtorEq, eq_self, if_true, if_false, true_and, and_true, not_true_eq_false, not_false_eq_true, if_pos, if_neg, z_ite_not, hv]
theorem pop_mask {F q : Nat} (hq : q ≤ 64) : pop (F &&& (2 ^ q - 1)) = num F q := by
  unfold pop num
  have h : ∀ k, (F &&& (2 ^ q - 1)).testBit k = (F.testBit k && decide (k < q)) := fun k => by rw [Nat.testBit_and, Nat.testBit_two_pow_sub_one]
  have e : 64 = q + (64 - q) := by omega
  rw [e, fb_ct_split, (fb_ct_zero (n := 64 - q)).mpr (fun k _ => by rw [h]; simp), Nat.add_zero]
  exact fb_ct_cong (fun k hk => by rw [h]; simp [hk])
theorem pw_lt {q : Nat} (h : q < 64) : 2 ^ q < 2 ^ 64 := Nat.pow_lt_pow_right (by decide) h
theorem s_num {X : Nat × (Nat → Int32)} {d : Nat} {M : Mem} {F q : Nat} (hd : 2 ≤ d) (hF : F < 2 ^ 64) (hq : q < 64) : callF X d 3 [.long (lN F), .int (nI q)] M = some (some (.int (nI (num F q))), M) := by
  refine callF_at (by omega) (by decide) (Nat.le_of_ble_eq_true rfl) (fun d _ => ?_)
  show Ev X d 3 0 [.long (lN F), .retAddr 0, .int (nI q)] [] M _
  have h1 : 1 ≤ 1 * 2 ^ q := by rw [Nat.one_mul]; exact Nat.two_pow_pos q
  have h2 : F &&& (1 * 2 ^ q - 1) < 2 ^ 64 := Nat.lt_of_le_of_lt Nat.and_le_left hF
  simp (disch := first | omega | assumption | exact rfl) only [U_3_0, XX, QQ, WW, KK, QX, SHs, RRs, Nat.reduceAdd, Nat.reduceMul, Nat.reduceLeDiff, Nat.reduceEqDiff, List.length_cons, List.length_nil, decide_true, decide_false, Bool.true_and, Bool.and_true, Bool.false_and, Bool.and_false, false_and, and_false, Bool.false_eq_true, Bool.true_eq_false, reduceCtorEq, eq_self, if_true, if_false, true_and, and_true, not_true_eq_false, not_false_eq_true, if_pos, if_neg, z_ite_not, fb_andL, s_bcL]
  rw [Nat.one_mul, pop_mask (by omega)]
/-- a wall's cells in the memory -/
def WA (M : Mem) (W : Nat) : Prop := m_sh M W = (9, 5) ∧ m_R M W 2 = some (W + 1) ∧ m_R M W 3 = some (W + 2) ∧ m_R M W 4 = some (W + 3) ∧ m_sh M (W + 1) = (20, 24) ∧ m_sh M (W + 2) = (20, 24) ∧ m_sh M (W + 3) = (20, 96)
theorem s_cellAt {X : Nat × (Nat → Int32)} {d : Nat} {M : Mem} {W F q : Nat} (hd : 3 ≤ d) (hW : WA M W) (hF : F < 2 ^ 64) (hf : m_J M W 0 = lN F) (hc : m_I M W 1 = nI (pop F)) (h24 : pop F ≤ 24) (hq : q < 2 ^ 31) : callF X d 94 [.ref W, .int (nI q)] M = some (some (.int (atF F (some q))), M) := by
  obtain ⟨h1, h2, h3, h4, h5, h6, h7⟩ := hW
  refine callF_at (by omega) (by decide) (Nat.le_of_ble_eq_true rfl) (fun d _ => ?_)
  show Ev X d 94 0 [.ref W, .int (nI q), .retAddr 0] [] M _
  rcases Nat.lt_or_ge q 64 with h | h
  · by_cases ht : F.testBit q = true
    · have := num_lt h ht
      simp (disch := first | omega | assumption | exact rfl) only [U_94_0, U_94_1, U_94_2, U_94_3, U_94_4, U_94_5, XX, QQ, WW, KK, QX, SHs, RRs, Nat.reduceAdd, Nat.reduceMul, Nat.reduceLeDiff, Nat.reduceEqDiff, List.length_cons, List.length_nil, decide_true, decide_false, Bool.true_and, Bool.and_true, Bool.false_and, Bool.and_false, false_and, and_false, Bool.false_eq_true, Bool.true_eq_false, reduceCtorEq, eq_self, if_true, if_false, true_and, and_true, not_true_eq_false, not_false_eq_true, if_pos, if_neg, z_ite_not, h1, hf, hc, s_has, s_num, ht, atF]
    · have ht : F.testBit q = false := by simpa using ht
      simp (disch := first | omega | assumption | exact rfl) only [U_94_0, U_94_1, U_94_2, U_94_3, U_94_4, U_94_5, XX, QQ, WW, KK, QX, SHs, RRs, Nat.reduceAdd, Nat.reduceMul, Nat.reduceLeDiff, Nat.reduceEqDiff, List.length_cons, List.length_nil, decide_true, decide_false, Bool.true_and, Bool.and_true, Bool.false_and, Bool.and_false, false_and, and_false, Bool.false_eq_true, Bool.true_eq_false, reduceCtorEq, eq_self, if_true, if_false, true_and, and_true, not_true_eq_false, not_false_eq_true, if_pos, if_neg, z_ite_not, h1, hf, hc, s_has, s_num, ht, atF]
  · have ht := tb64 hF h
    simp (disch := first | omega | assumption | exact rfl) only [U_94_0, U_94_1, U_94_2, U_94_3, U_94_4, U_94_5, XX, QQ, WW, KK, QX, SHs, RRs, Nat.reduceAdd, Nat.reduceMul, Nat.reduceLeDiff, Nat.reduceEqDiff, List.length_cons, List.length_nil, decide_true, decide_false, Bool.true_and, Bool.and_true, Bool.false_and, Bool.and_false, false_and, and_false, Bool.false_eq_true, Bool.true_eq_false, reduceCtorEq, eq_self, if_true, if_false, true_and, and_true, not_true_eq_false, not_false_eq_true, if_pos, if_neg, z_ite_not, h1, hf, hc, s_has, s_num, ht, atF]
theorem s_cellAt_neg {X : Nat × (Nat → Int32)} {d : Nat} {M : Mem} {W F : Nat} {v : Int32} (hd : 3 ≤ d) (hW : WA M W) (hf : m_J M W 0 = lN F) (hv : v < 0) : callF X d 94 [.ref W, .int v] M = some (some (.int (-1)), M) := by
  obtain ⟨h1, h2, h3, h4, h5, h6, h7⟩ := hW
  refine callF_at (by omega) (by decide) (Nat.le_of_ble_eq_true rfl) (fun d _ => ?_)
  show Ev X d 94 0 [.ref W, .int v, .retAddr 0] [] M _
  simp (disch := first | omega | assumption | exact rfl) only [U_94_0, U_94_1, U_94_2, U_94_3, U_94_4, U_94_5, XX, QQ, WW, KK, QX, SHs, RRs, Nat.reduceAdd, Nat.reduceMul, Nat.reduceLeDiff, Nat.reduceEqDiff, List.length_cons, List.length_nil, decide_true, decide_false, Bool.true_and, Bool.and_true, Bool.false_and, Bool.and_false, false_and, and_false, Bool.false_eq_true, Bool.true_eq_false, reduceCtorEq, eq_self, if_true, if_false, true_and, and_true, not_true_eq_false, not_false_eq_true, if_pos, if_neg, z_ite_not, h1, hf, s_has_neg]
def fillI (n : Nat) (v : Int32) (g : Nat → Int32) : Nat → Int32 := fun k => if k < n then v else g k
def fillJ (n : Nat) (v : Int64) (g : Nat → Int64) : Nat → Int64 := fun k => if k < n then v else g k
theorem fillI_s {n : Nat} {v : Int32} {g : Nat → Int32} : va_up (fillI n v g) n v = fillI (n + 1) v g := by
  funext k; unfold va_up fillI
  by_cases h : k = n
  · rw [if_pos h, if_pos (by omega)]
  · rw [if_neg h]
    by_cases h2 : k < n
    · rw [if_pos h2, if_pos (by omega)]
    · rw [if_neg h2, if_neg (by omega)]
theorem fillJ_s {n : Nat} {v : Int64} {g : Nat → Int64} : va_up (fillJ n v g) n v = fillJ (n + 1) v g := by
  funext k; unfold va_up fillJ
  by_cases h : k = n
  · rw [if_pos h, if_pos (by omega)]
  · rw [if_neg h]
    by_cases h2 : k < n
    · rw [if_pos h2, if_pos (by omega)]
    · rw [if_neg h2, if_neg (by omega)]
theorem fillI_0 {v : Int32} {g : Nat → Int32} : fillI 0 v g = g := by funext k; unfold fillI; rw [if_neg (by omega)]
theorem fillJ_0 {v : Int64} {g : Nat → Int64} : fillJ 0 v g = g := by funext k; unfold fillJ; rw [if_neg (by omega)]
theorem w_idJ {M : Mem} {a : Nat} : m_rJ M a (m_J M a) = M := by
  show (_, _, _, _, _, va_up (m_J M) a (m_J M a)) = M
  rw [vu_id]; rfl
theorem s_fill {X : Nat × (Nat → Int32)} {d : Nat} {M : Mem} {a n : Nat} {v : Int32} (hd : 1 ≤ d) (h : m_sh M a = (20, n)) (hn : n < 2 ^ 31) : callF X d 264 [.ref a, .int v] M = some (none, m_rI M a (fillI n v (m_I M a))) := by
  refine callF_at (by omega) (by decide) (Nat.le_of_ble_eq_true rfl) (fun d _ => ?_)
  show Ev X d 264 0 [.ref a, .int v, .retAddr 0, .retAddr 0] [] M _
  simp (disch := first | omega | assumption | exact rfl) only [U_264_0, XX, QQ, WW, KK, QX, SHs, RRs, Nat.reduceAdd, Nat.reduceMul, Nat.reduceLeDiff, Nat.reduceEqDiff, List.length_cons, List.length_nil, decide_true, decide_false, Bool.true_and, Bool.and_true, Bool.false_and, Bool.and_false, false_and, and_false, Bool.false_eq_true, Bool.true_eq_false, reduceCtorEq, eq_self, if_true, if_false, true_and, and_true, not_true_eq_false, not_false_eq_true, if_pos, if_neg, z_ite_not, h]
  refine (congrArg (fun z => Ev X d 264 1 [.ref a, .int v, .int (nI 0), .int (nI n)] [] z (none, m_rI M a (fillI n v (m_I M a)))) (show M = m_rI M a (fillI 0 v (m_I M a)) by rw [fillI_0, w_id])).mpr ?_
  refine lp0 (n := n) (P := fun i => Ev X d 264 1 [.ref a, .int v, .int (nI i), .int (nI n)] [] (m_rI M a (fillI i v (m_I M a))) (none, m_rI M a (fillI n v (m_I M a)))) ?_ ?_
  · rw [U_264_1]
    simp (disch := first | omega | assumption | exact rfl) only [U_264_3, XX, QQ, WW, KK, QX, SHs, RRs, Nat.reduceAdd, Nat.reduceMul, Nat.reduceLeDiff, Nat.reduceEqDiff, List.length_cons, List.length_nil, decide_true, decide_false, Bool.true_and, Bool.and_true, Bool.false_and, Bool.and_false, false_and, and_false, Bool.false_eq_true, Bool.true_eq_false, reduceCtorEq, eq_self, if_true, if_false, true_and, and_true, not_true_eq_false, not_false_eq_true, if_pos, if_neg, z_ite_not]
  · intro i hi ih
    rw [U_264_1]
    simp (disch := first | omega | assumption | exact rfl) only [U_264_2, XX, QQ, WW, KK, QX, SHs, RRs, Nat.reduceAdd, Nat.reduceMul, Nat.reduceLeDiff, Nat.reduceEqDiff, List.length_cons, List.length_nil, decide_true, decide_false, Bool.true_and, Bool.and_true, Bool.false_and, Bool.and_false, false_and, and_false, Bool.false_eq_true, Bool.true_eq_false, reduceCtorEq, eq_self, if_true, if_false, true_and, and_true, not_true_eq_false, not_false_eq_true, if_pos, if_neg, z_ite_not, h, fillI_s]
    exact ih
theorem s_fillL {X : Nat × (Nat → Int32)} {d : Nat} {M : Mem} {a n : Nat} {v : Int64} (hd : 1 ≤ d) (h : m_sh M a = (21, n)) (hn : n < 2 ^ 31) : callF X d 263 [.ref a, .long v] M = some (none, m_rJ M a (fillJ n v (m_J M a))) := by
  refine callF_at (by omega) (by decide) (Nat.le_of_ble_eq_true rfl) (fun d _ => ?_)
  show Ev X d 263 0 [.ref a, .long v, .retAddr 0, .retAddr 0, .retAddr 0] [] M _
  simp (disch := first | omega | assumption | exact rfl) only [U_263_0, XX, QQ, WW, KK, QX, SHs, RRs, Nat.reduceAdd, Nat.reduceMul, Nat.reduceLeDiff, Nat.reduceEqDiff, List.length_cons, List.length_nil, decide_true, decide_false, Bool.true_and, Bool.and_true, Bool.false_and, Bool.and_false, false_and, and_false, Bool.false_eq_true, Bool.true_eq_false, reduceCtorEq, eq_self, if_true, if_false, true_and, and_true, not_true_eq_false, not_false_eq_true, if_pos, if_neg, z_ite_not, h]
  refine (congrArg (fun z => Ev X d 263 1 [.ref a, .long v, .retAddr 0, .int (nI 0), .int (nI n)] [] z (none, m_rJ M a (fillJ n v (m_J M a)))) (show M = m_rJ M a (fillJ 0 v (m_J M a)) by rw [fillJ_0, w_idJ])).mpr ?_
  refine lp0 (n := n) (P := fun i => Ev X d 263 1 [.ref a, .long v, .retAddr 0, .int (nI i), .int (nI n)] [] (m_rJ M a (fillJ i v (m_J M a))) (none, m_rJ M a (fillJ n v (m_J M a)))) ?_ ?_
  · rw [U_263_1]
    simp (disch := first | omega | assumption | exact rfl) only [U_263_3, XX, QQ, WW, KK, QX, SHs, RRs, Nat.reduceAdd, Nat.reduceMul, Nat.reduceLeDiff, Nat.reduceEqDiff, List.length_cons, List.length_nil, decide_true, decide_false, Bool.true_and, Bool.and_true, Bool.false_and, Bool.and_false, false_and, and_false, Bool.false_eq_true, Bool.true_eq_false, reduceCtorEq, eq_self, if_true, if_false, true_and, and_true, not_true_eq_false, not_false_eq_true, if_pos, if_neg, z_ite_not]
  · intro i hi ih
    rw [U_263_1]
    simp (disch := first | omega | assumption | exact rfl) only [U_263_2, XX, QQ, WW, KK, QX, SHs, RRs, Nat.reduceAdd, Nat.reduceMul, Nat.reduceLeDiff, Nat.reduceEqDiff, List.length_cons, List.length_nil, decide_true, decide_false, Bool.true_and, Bool.and_true, Bool.false_and, Bool.and_false, false_and, and_false, Bool.false_eq_true, Bool.true_eq_false, reduceCtorEq, eq_self, if_true, if_false, true_and, and_true, not_true_eq_false, not_false_eq_true, if_pos, if_neg, z_ite_not, h, fillJ_s]
    exact ih
