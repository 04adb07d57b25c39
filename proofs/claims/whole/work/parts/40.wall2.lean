/-! ===== reading walls ===== -/
theorem lpI {n : Nat} {P : Nat → Prop} {G : Prop} (h0 : P n) (hs : ∀ i, i < n → P (i + 1) → P i) (hG : P 0 → G) : G := hG (lp0 h0 hs)
def WG (M : Mem) (W F : Nat) : Prop := WA M W ∧ F < 2 ^ 64 ∧ pop F ≤ 24 ∧ m_J M W 0 = lN F ∧ m_I M W 1 = nI (pop F) ∧ (∀ i, i < pop F → m_I M (W + 2) i = nI (pl F i)) ∧ (∀ i s, i < pop F → s < 4 → m_I M (W + 3) (i * 4 + s) = tch F i s)
theorem Wend_WG {M : Mem} {W F : Nat} (hW : WA M W) (hF : F < 2 ^ 64) (h24 : pop F ≤ 24) : WG (Wend M W F) W F := by
  refine ⟨hW, hF, h24, ?_, ?_, ?_, ?_⟩
  · unfold Wend; rw [mw_J, vu_eq]
  · unfold Wend; rw [mw_I0, vu_eq]
  · intro i hi; unfold Wend; rw [mw_I2]; exact if_pos hi
  · intro i s hi hs; unfold Wend; rw [mw_I3]; unfold tcA; rw [if_pos (by omega), show (i * 4 + s) / 4 = i by omega, show (i * 4 + s) % 4 = s by omega]
def brI (b : Nat → Int32) (c : Nat) (v : Int32) : Int32 := if 0 ≤ v ∧ v < nI c then b v.toNatClampNeg else -1
theorem brI_in {b : Nat → Int32} {c j : Nat} (h : j < c) (hc : c < 2 ^ 31) : brI b c (nI j) = b j := by
  unfold brI; rw [if_pos ⟨nI_pos' (by omega), nI_lt h hc⟩, nI_clamp (by omega)]
theorem brI_m {b : Nat → Int32} {c : Nat} : brI b c (-1) = -1 := by
  unfold brI; rw [if_neg (fun z => absurd z.1 (by decide +kernel))]
theorem s_brickIn {X : Nat × (Nat → Int32)} {d : Nat} {M : Mem} {W F : Nat} {v : Int32} (hd : 1 ≤ d) (hW : WG M W F) : callF X d 96 [.ref W, .int v] M = some (some (.int (brI (m_I M (W + 1)) (pop F) v)), M) := by
  obtain ⟨⟨h1, h2, h3, h4, h5, h6, h7⟩, hF, h24, hj, hc, hp, ht⟩ := hW
  refine callF_at (by omega) (by decide) (Nat.le_of_ble_eq_true rfl) (fun d _ => ?_)
  show Ev X d 96 0 [.ref W, .int v] [] M _
  unfold brI
  rcases of_c v (pop F) (by omega) with ⟨j, hj, rfl⟩ | ⟨a1, a2⟩ | ⟨a1, a2, a3, a4⟩
  · simp (disch := first | omega | assumption | exact rfl) only [U_96_0, U_96_1, U_96_2, U_96_3, U_96_4, XX, QQ, WW, KK, QX, SHs, RRs, Nat.reduceAdd, Nat.reduceMul, Nat.reduceLeDiff, Nat.reduceEqDiff, List.length_cons, List.length_nil, decide_true, decide_false, Bool.true_and, Bool.and_true, Bool.false_and, Bool.and_false, false_and, and_false, Bool.false_eq_true, Bool.true_eq_false, reduceCtorEq, eq_self, if_true, if_false, true_and, and_true, not_true_eq_false, not_false_eq_true, if_pos, if_neg, z_ite_not, h1, h2, h5, hc]
  · simp (disch := first | omega | assumption | exact rfl) only [U_96_0, U_96_1, U_96_2, U_96_3, U_96_4, XX, QQ, WW, KK, QX, SHs, RRs, Nat.reduceAdd, Nat.reduceMul, Nat.reduceLeDiff, Nat.reduceEqDiff, List.length_cons, List.length_nil, decide_true, decide_false, Bool.true_and, Bool.and_true, Bool.false_and, Bool.and_false, false_and, and_false, Bool.false_eq_true, Bool.true_eq_false, reduceCtorEq, eq_self, if_true, if_false, true_and, and_true, not_true_eq_false, not_false_eq_true, if_pos, if_neg, z_ite_not, h1, h2, h5, hc, a1, a2, false_and]
  · simp (disch := first | omega | assumption | exact rfl) only [U_96_0, U_96_1, U_96_2, U_96_3, U_96_4, XX, QQ, WW, KK, QX, SHs, RRs, Nat.reduceAdd, Nat.reduceMul, Nat.reduceLeDiff, Nat.reduceEqDiff, List.length_cons, List.length_nil, decide_true, decide_false, Bool.true_and, Bool.and_true, Bool.false_and, Bool.and_false, false_and, and_false, Bool.false_eq_true, Bool.true_eq_false, reduceCtorEq, eq_self, if_true, if_false, true_and, and_true, not_true_eq_false, not_false_eq_true, if_pos, if_neg, z_ite_not, h1, h2, h5, hc, a1, a2, a3, a4, and_false]
theorem s_cellBeside {X : Nat × (Nat → Int32)} {d : Nat} {M : Mem} {W F i s : Nat} (hd : 2 ≤ d) (hW : WG M W F) (hi : i < pop F) (hs : s < 4) : callF X d 97 [.ref W, .int (nI i), .int (nI s)] M = some (some (.int (tch F i s)), M) := by
  obtain ⟨⟨h1, h2, h3, h4, h5, h6, h7⟩, hF, h24, hj, hc, hp, ht⟩ := hW
  refine callF_at (by omega) (by decide) (Nat.le_of_ble_eq_true rfl) (fun d _ => ?_)
  show Ev X d 97 0 [.ref W, .int (nI i), .int (nI s)] [] M _
  have t := ht i s hi hs
  simp (disch := first | omega | assumption | exact rfl) only [U_97_0, U_97_1, U_97_2, U_97_3, U_97_4, XX, QQ, WW, KK, QX, SHs, RRs, Nat.reduceAdd, Nat.reduceMul, Nat.reduceLeDiff, Nat.reduceEqDiff, List.length_cons, List.length_nil, decide_true, decide_false, Bool.true_and, Bool.and_true, Bool.false_and, Bool.and_false, false_and, and_false, Bool.false_eq_true, Bool.true_eq_false, reduceCtorEq, eq_self, if_true, if_false, true_and, and_true, not_true_eq_false, not_false_eq_true, if_pos, if_neg, z_ite_not, h1, h4, h7, hc, s_isOf, t]
theorem s_besideOf {X : Nat × (Nat → Int32)} {d : Nat} {M : Mem} {W F i : Nat} (hd : 1 ≤ d) (hW : WG M W F) (hB : WB (m_I M (W + 1)) (pop F)) (hi : i < pop F) : callF X d 98 [.ref W, .int (nI i)] M = some (some (.int (nI (nbr F (m_I M (W + 1)) i))), M) := by
  obtain ⟨⟨h1, h2, h3, h4, h5, h6, h7⟩, hF, h24, hj, hc, hp, ht⟩ := hW
  refine callF_at (by omega) (by decide) (Nat.le_of_ble_eq_true rfl) (fun d _ => ?_)
  show Ev X d 98 0 [.ref W, .int (nI i), .retAddr 0, .retAddr 0, .retAddr 0] [] M _
  simp (disch := first | omega | assumption | exact rfl) only [U_98_0, XX, QQ, WW, KK, QX, SHs, RRs, Nat.reduceAdd, Nat.reduceMul, Nat.reduceLeDiff, Nat.reduceEqDiff, List.length_cons, List.length_nil, decide_true, decide_false, Bool.true_and, Bool.and_true, Bool.false_and, Bool.and_false, false_and, and_false, Bool.false_eq_true, Bool.true_eq_false, reduceCtorEq, eq_self, if_true, if_false, true_and, and_true, not_true_eq_false, not_false_eq_true, if_pos, if_neg, z_ite_not]
  obtain ⟨B, hBe⟩ : ∃ B, B = m_I M (W + 1) := ⟨_, rfl⟩
  rw [← hBe] at hB ⊢
  have ef : bs (fun c => ∃ s', s' < 4 ∧ ∃ j, j < pop F ∧ tch F i s' = nI j ∧ B j = nI c) = nbr F B i := by
    apply bs_ext
    intro c hc
    constructor
    · rintro ⟨s', hs, j, hj, e1, e2⟩
      rcases tch_in (s := s') hi with q | ⟨j', hj', q, q2, _⟩
      · rw [q] at e1; exact absurd e1.symm (nI_ne (by omega))
      · have : j' = j := nI_inj (by omega) (by omega) (q.symm.trans e1)
        subst this; exact ⟨j', hj, q2, e2⟩
    · rintro ⟨j, hj, e1, e2⟩
      obtain ⟨s', hs, e⟩ := adj_tch hi hj e1
      exact ⟨s', hs, j, hj, e, e2⟩
  rw [← ef]
  refine lpI (n := 4) (P := fun s => ∀ u : Value, Ev X d 98 1 [.ref W, .int (nI i), .int (nI (bs (fun c => ∃ s', s' < s ∧ ∃ j, j < pop F ∧ tch F i s' = nI j ∧ B j = nI c))), .int (nI s), u] [] M (some (.int (nI (bs (fun c => ∃ s', s' < 4 ∧ ∃ j, j < pop F ∧ tch F i s' = nI j ∧ B j = nI c)))), M)) ?_ ?_ ?_
  · intro u
    rw [U_98_1]
    simp (disch := first | omega | assumption | exact rfl) only [U_98_9, XX, QQ, WW, KK, QX, SHs, RRs, Nat.reduceAdd, Nat.reduceMul, Nat.reduceLeDiff, Nat.reduceEqDiff, List.length_cons, List.length_nil, decide_true, decide_false, Bool.true_and, Bool.and_true, Bool.false_and, Bool.and_false, false_and, and_false, Bool.false_eq_true, Bool.true_eq_false, reduceCtorEq, eq_self, if_true, if_false, true_and, and_true, not_true_eq_false, not_false_eq_true, if_pos, if_neg, z_ite_not]
  · intro s hs ih u
    rw [U_98_1]
    have t := ht i s hi hs
    rcases tch_in (s := s) hi with q | ⟨j, hj, q, _, _⟩
    · have e : bs (fun c => ∃ s', s' < s + 1 ∧ ∃ j, j < pop F ∧ tch F i s' = nI j ∧ B j = nI c) = bs (fun c => ∃ s', s' < s ∧ ∃ j, j < pop F ∧ tch F i s' = nI j ∧ B j = nI c) := bs_ext (fun c _ => by
        constructor
        · rintro ⟨s', a1, j, a2, a3, a4⟩
          rcases Nat.lt_or_ge s' s with z | z
          · exact ⟨s', z, j, a2, a3, a4⟩
          · have : s' = s := by omega
            subst this; rw [q] at a3; exact absurd a3.symm (nI_ne (by omega))
        · rintro ⟨s', a1, z⟩; exact ⟨s', by omega, z⟩)
      rw [e] at ih
      simp (disch := first | omega | assumption | exact rfl) only [U_98_2, U_98_3, U_98_4, U_98_5, U_98_6, U_98_7, U_98_8, XX, QQ, WW, KK, QX, SHs, RRs, Nat.reduceAdd, Nat.reduceMul, Nat.reduceLeDiff, Nat.reduceEqDiff, List.length_cons, List.length_nil, decide_true, decide_false, Bool.true_and, Bool.and_true, Bool.false_and, Bool.and_false, false_and, and_false, Bool.false_eq_true, Bool.true_eq_false, reduceCtorEq, eq_self, if_true, if_false, true_and, and_true, not_true_eq_false, not_false_eq_true, if_pos, if_neg, z_ite_not, h1, h2, h4, h5, h7, hc, t, q]
      exact ih _
    · rcases hB.1 j hj with z | ⟨b, hb, z⟩
      · have e : bs (fun c => ∃ s', s' < s + 1 ∧ ∃ j, j < pop F ∧ tch F i s' = nI j ∧ B j = nI c) = bs (fun c => ∃ s', s' < s ∧ ∃ j, j < pop F ∧ tch F i s' = nI j ∧ B j = nI c) := bs_ext (fun c _ => by
          constructor
          · rintro ⟨s', a1, j', a2, a3, a4⟩
            rcases Nat.lt_or_ge s' s with z' | z'
            · exact ⟨s', z', j', a2, a3, a4⟩
            · have : s' = s := by omega
              subst this; rw [q] at a3
              have : j = j' := nI_inj (by omega) (by omega) a3
              subst this; rw [z] at a4; exact absurd a4.symm (nI_ne (by omega))
          · rintro ⟨s', a1, z⟩; exact ⟨s', by omega, z⟩)
        rw [e] at ih
        rw [hBe] at z
        simp (disch := first | omega | assumption | exact rfl) only [U_98_2, U_98_3, U_98_4, U_98_5, U_98_6, U_98_7, U_98_8, XX, QQ, WW, KK, QX, SHs, RRs, Nat.reduceAdd, Nat.reduceMul, Nat.reduceLeDiff, Nat.reduceEqDiff, List.length_cons, List.length_nil, decide_true, decide_false, Bool.true_and, Bool.and_true, Bool.false_and, Bool.and_false, false_and, and_false, Bool.false_eq_true, Bool.true_eq_false, reduceCtorEq, eq_self, if_true, if_false, true_and, and_true, not_true_eq_false, not_false_eq_true, if_pos, if_neg, z_ite_not, h1, h2, h4, h5, h7, hc, t, q, z]
        exact ih _
      · have e : bs (fun c => ∃ s', s' < s + 1 ∧ ∃ j, j < pop F ∧ tch F i s' = nI j ∧ B j = nI c) = bs (fun c => ∃ s', s' < s ∧ ∃ j, j < pop F ∧ tch F i s' = nI j ∧ B j = nI c) ||| 2 ^ b := by
          rw [bs_ins hb]
          apply bs_ext
          intro c hc
          constructor
          · rintro ⟨s', a1, j', a2, a3, a4⟩
            rcases Nat.lt_or_ge s' s with z' | z'
            · exact .inl ⟨s', z', j', a2, a3, a4⟩
            · have : s' = s := by omega
              subst this; rw [q] at a3
              have : j = j' := nI_inj (by omega) (by omega) a3
              subst this; rw [z] at a4; exact .inr (nI_inj (by omega) (by omega) a4).symm
          · rintro (⟨s', a1, z⟩ | rfl)
            · exact ⟨s', by omega, z⟩
            · exact ⟨s, by omega, j, hj, q, z⟩
        rw [e] at ih
        rw [hBe] at z
        simp (disch := first | omega | assumption | exact rfl) only [U_98_2, U_98_3, U_98_4, U_98_5, U_98_6, U_98_7, U_98_8, XX, QQ, WW, KK, QX, SHs, RRs, Nat.reduceAdd, Nat.reduceMul, Nat.reduceLeDiff, Nat.reduceEqDiff, List.length_cons, List.length_nil, decide_true, decide_false, Bool.true_and, Bool.and_true, Bool.false_and, Bool.and_false, false_and, and_false, Bool.false_eq_true, Bool.true_eq_false, reduceCtorEq, eq_self, if_true, if_false, true_and, and_true, not_true_eq_false, not_false_eq_true, if_pos, if_neg, z_ite_not, h1, h2, h4, h5, h7, hc, t, q, z, fa_or]
        exact ih _
  · intro L
    rw [bs_0 (fun c _ => by rintro ⟨s', hs, _⟩; omega)] at L
    exact L _
/-- the first place from i on, k places -/
def fstI (f : Nat → Int32) (b : Int32) : Nat → Nat → Int32
  | 0, _ => -1
  | k + 1, i => if f i = b then nI i else fstI f b k (i + 1)
theorem fstI_spec (f : Nat → Int32) (b : Int32) : ∀ k i, (fstI f b k i = -1 ∧ ∀ j, i ≤ j → j < i + k → f j ≠ b) ∨ ∃ j, i ≤ j ∧ j < i + k ∧ f j = b ∧ fstI f b k i = nI j ∧ ∀ j', i ≤ j' → j' < j → f j' ≠ b
  | 0, i => .inl ⟨rfl, fun j h1 h2 => by omega⟩
  | k + 1, i => by
    rw [fstI]
    by_cases h : f i = b
    · exact .inr ⟨i, by omega, by omega, h, if_pos h, fun j' h1 h2 => by omega⟩
    · rw [if_neg h]
      rcases fstI_spec f b k (i + 1) with ⟨h1, h2⟩ | ⟨j, h1, h2, h3, h4, h5⟩
      · refine .inl ⟨h1, fun j h3 h4 => ?_⟩
        by_cases e : j = i
        · rw [e]; exact h
        · exact h2 j (by omega) (by omega)
      · refine .inr ⟨j, by omega, by omega, h3, h4, fun j' h6 h7 => ?_⟩
        by_cases e : j' = i
        · rw [e]; exact h
        · exact h5 j' (by omega) h7
theorem fstI_cong {f g : Nat → Int32} {b : Int32} : ∀ k i, (∀ j, i ≤ j → j < i + k → f j = g j) → fstI f b k i = fstI g b k i
  | 0, i, _ => rfl
  | k + 1, i, h => by rw [fstI, fstI, h i (by omega) (by omega), fstI_cong k (i + 1) (fun j h1 h2 => h j (by omega) (by omega))]
theorem s_cellOf {X : Nat × (Nat → Int32)} {d : Nat} {M : Mem} {W F : Nat} {b : Int32} (hd : 1 ≤ d) (hW : WG M W F) : callF X d 99 [.ref W, .int b] M = some (some (.int (fstI (m_I M (W + 1)) b (pop F) 0)), M) := by
  obtain ⟨⟨h1, h2, h3, h4, h5, h6, h7⟩, hF, h24, hj, hc, hp, ht⟩ := hW
  refine callF_at (by omega) (by decide) (Nat.le_of_ble_eq_true rfl) (fun d _ => ?_)
  show Ev X d 99 0 [.ref W, .int b, .retAddr 0] [] M _
  simp (disch := first | omega | assumption | exact rfl) only [U_99_0, XX, QQ, WW, KK, QX, SHs, RRs, Nat.reduceAdd, Nat.reduceMul, Nat.reduceLeDiff, Nat.reduceEqDiff, List.length_cons, List.length_nil, decide_true, decide_false, Bool.true_and, Bool.and_true, Bool.false_and, Bool.and_false, false_and, and_false, Bool.false_eq_true, Bool.true_eq_false, reduceCtorEq, eq_self, if_true, if_false, true_and, and_true, not_true_eq_false, not_false_eq_true, if_pos, if_neg, z_ite_not]
  refine lp0 (n := pop F) (P := fun i => Ev X d 99 1 [.ref W, .int b, .int (nI i)] [] M (some (.int (fstI (m_I M (W + 1)) b (pop F - i) i)), M)) ?_ ?_
  · rw [U_99_1, Nat.sub_self]
    simp (disch := first | omega | assumption | exact rfl) only [U_99_5, XX, QQ, WW, KK, QX, SHs, RRs, Nat.reduceAdd, Nat.reduceMul, Nat.reduceLeDiff, Nat.reduceEqDiff, List.length_cons, List.length_nil, decide_true, decide_false, Bool.true_and, Bool.and_true, Bool.false_and, Bool.and_false, false_and, and_false, Bool.false_eq_true, Bool.true_eq_false, reduceCtorEq, eq_self, if_true, if_false, true_and, and_true, not_true_eq_false, not_false_eq_true, if_pos, if_neg, z_ite_not, h1, hc, fstI]
  · intro i hi ih
    rw [U_99_1, show pop F - i = (pop F - (i + 1)) + 1 by omega, fstI]
    simp (disch := first | omega | assumption | exact rfl) only [U_99_2, U_99_3, U_99_4, XX, QQ, WW, KK, QX, SHs, RRs, Nat.reduceAdd, Nat.reduceMul, Nat.reduceLeDiff, Nat.reduceEqDiff, List.length_cons, List.length_nil, decide_true, decide_false, Bool.true_and, Bool.and_true, Bool.false_and, Bool.and_false, false_and, and_false, Bool.false_eq_true, Bool.true_eq_false, reduceCtorEq, eq_self, if_true, if_false, true_and, and_true, not_true_eq_false, not_false_eq_true, if_pos, if_neg, z_ite_not, h1, h2, h5, hc]
    split
    · trivial
    · exact ih
/-- is there a brick -/
def isB (b : Nat → Int32) (i : Nat) : Bool := decide (¬ b i = -1)
theorem s_bricksIn {X : Nat × (Nat → Int32)} {d : Nat} {M : Mem} {W F : Nat} (hd : 1 ≤ d) (hW : WG M W F) : callF X d 100 [.ref W] M = some (some (.int (nI (fb_ct (isB (m_I M (W + 1))) (pop F)))), M) := by
  obtain ⟨⟨h1, h2, h3, h4, h5, h6, h7⟩, hF, h24, hj, hc, hp, ht⟩ := hW
  refine callF_at (by omega) (by decide) (Nat.le_of_ble_eq_true rfl) (fun d _ => ?_)
  show Ev X d 100 0 [.ref W, .retAddr 0, .retAddr 0] [] M _
  simp (disch := first | omega | assumption | exact rfl) only [U_100_0, XX, QQ, WW, KK, QX, SHs, RRs, Nat.reduceAdd, Nat.reduceMul, Nat.reduceLeDiff, Nat.reduceEqDiff, List.length_cons, List.length_nil, decide_true, decide_false, Bool.true_and, Bool.and_true, Bool.false_and, Bool.and_false, false_and, and_false, Bool.false_eq_true, Bool.true_eq_false, reduceCtorEq, eq_self, if_true, if_false, true_and, and_true, not_true_eq_false, not_false_eq_true, if_pos, if_neg, z_ite_not]
  refine lp0 (n := pop F) (P := fun i => Ev X d 100 1 [.ref W, .int (nI (fb_ct (isB (m_I M (W + 1))) i)), .int (nI i)] [] M (some (.int (nI (fb_ct (isB (m_I M (W + 1))) (pop F)))), M)) ?_ ?_
  · rw [U_100_1]
    simp (disch := first | omega | assumption | exact rfl) only [U_100_5, XX, QQ, WW, KK, QX, SHs, RRs, Nat.reduceAdd, Nat.reduceMul, Nat.reduceLeDiff, Nat.reduceEqDiff, List.length_cons, List.length_nil, decide_true, decide_false, Bool.true_and, Bool.and_true, Bool.false_and, Bool.and_false, false_and, and_false, Bool.false_eq_true, Bool.true_eq_false, reduceCtorEq, eq_self, if_true, if_false, true_and, and_true, not_true_eq_false, not_false_eq_true, if_pos, if_neg, z_ite_not, h1, hc]
  · intro i hi ih
    rw [U_100_1]
    simp (disch := first | omega | assumption | exact rfl) only [U_100_2, U_100_3, U_100_4, XX, QQ, WW, KK, QX, SHs, RRs, Nat.reduceAdd, Nat.reduceMul, Nat.reduceLeDiff, Nat.reduceEqDiff, List.length_cons, List.length_nil, decide_true, decide_false, Bool.true_and, Bool.and_true, Bool.false_and, Bool.and_false, false_and, and_false, Bool.false_eq_true, Bool.true_eq_false, reduceCtorEq, eq_self, if_true, if_false, true_and, and_true, not_true_eq_false, not_false_eq_true, if_pos, if_neg, z_ite_not, h1, h2, h5, hc]
    rw [fb_ct_succ] at ih
    split
    · next h => simpa [isB, h] using ih
    · next h => simpa [isB, h] using ih
/-- sets of 64 -/
noncomputable def b64 (P : Nat → Prop) : Nat := bsB (fun k => cd (P k)) 64
theorem b64_lt (P : Nat → Prop) : b64 P < 2 ^ 64 := bsB_lt _ 64
theorem b64_tb {P : Nat → Prop} {k : Nat} : (b64 P).testBit k = true ↔ k < 64 ∧ P k := by
  unfold b64
  rw [bsB_tb, Bool.and_eq_true, decide_eq_true_iff, cd_iff]
theorem b64_ext {P Q : Nat → Prop} (h : ∀ k, k < 64 → (P k ↔ Q k)) : b64 P = b64 Q := nat_ext (fun k => by
  rw [b64_tb, b64_tb]
  exact ⟨fun z => ⟨z.1, (h k z.1).mp z.2⟩, fun z => ⟨z.1, (h k z.1).mpr z.2⟩⟩)
theorem b64_0 {P : Nat → Prop} (h : ∀ k, k < 64 → ¬ P k) : b64 P = 0 := nat_ext (fun k => by
  rw [b64_tb, Nat.zero_testBit]
  exact ⟨fun z => absurd z.2 (h k z.1), fun z => by cases z⟩)
theorem b64_ins {P : Nat → Prop} {b : Nat} (hb : b < 64) : b64 P ||| 2 ^ b = b64 (fun k => P k ∨ k = b) := nat_ext (fun k => by
  rw [Nat.testBit_or, Nat.testBit_two_pow, Bool.or_eq_true, b64_tb, b64_tb, decide_eq_true_iff]
  constructor
  · rintro (⟨a, b⟩ | e)
    · exact ⟨a, .inl b⟩
    · exact ⟨by omega, .inr e.symm⟩
  · rintro ⟨a, b | b⟩
    · exact .inl ⟨a, b⟩
    · exact .inr b.symm)
noncomputable def filP (F : Nat) (B : Nat → Int32) (i : Nat) : Nat := b64 (fun p => ∃ j, j < i ∧ p = pl F j ∧ B j ≠ -1)
noncomputable def fil (F : Nat) (B : Nat → Int32) : Nat := filP F B (pop F)
theorem s_filled {X : Nat × (Nat → Int32)} {d : Nat} {M : Mem} {W F : Nat} (hd : 1 ≤ d) (hW : WG M W F) : callF X d 102 [.ref W] M = some (some (.long (lN (fil F (m_I M (W + 1))))), M) := by
  obtain ⟨⟨h1, h2, h3, h4, h5, h6, h7⟩, hF, h24, hj, hc, hp, ht⟩ := hW
  refine callF_at (by omega) (by decide) (Nat.le_of_ble_eq_true rfl) (fun d _ => ?_)
  show Ev X d 102 0 [.ref W, .retAddr 0, .retAddr 0, .retAddr 0] [] M _
  simp (disch := first | omega | assumption | exact rfl) only [U_102_0, XX, QQ, WW, KK, QX, SHs, RRs, Nat.reduceAdd, Nat.reduceMul, Nat.reduceLeDiff, Nat.reduceEqDiff, List.length_cons, List.length_nil, decide_true, decide_false, Bool.true_and, Bool.and_true, Bool.false_and, Bool.and_false, false_and, and_false, Bool.false_eq_true, Bool.true_eq_false, reduceCtorEq, eq_self, if_true, if_false, true_and, and_true, not_true_eq_false, not_false_eq_true, if_pos, if_neg, z_ite_not]
  obtain ⟨B, hBe⟩ : ∃ B, B = m_I M (W + 1) := ⟨_, rfl⟩
  rw [← hBe, show lN 0 = lN (filP F B 0) by unfold filP; rw [b64_0 (fun c _ => by rintro ⟨s', hs, _⟩; omega)]]
  refine lp0 (n := pop F) (P := fun i => Ev X d 102 1 [.ref W, .long (lN (filP F B i)), .retAddr 0, .int (nI i)] [] M (some (.long (lN (fil F B))), M)) ?_ ?_
  · rw [U_102_1]
    simp (disch := first | omega | assumption | exact rfl) only [U_102_5, XX, QQ, WW, KK, QX, SHs, RRs, Nat.reduceAdd, Nat.reduceMul, Nat.reduceLeDiff, Nat.reduceEqDiff, List.length_cons, List.length_nil, decide_true, decide_false, Bool.true_and, Bool.and_true, Bool.false_and, Bool.and_false, false_and, and_false, Bool.false_eq_true, Bool.true_eq_false, reduceCtorEq, eq_self, if_true, if_false, true_and, and_true, not_true_eq_false, not_false_eq_true, if_pos, if_neg, z_ite_not, h1, hc, fil]
  · intro i hi ih
    rw [U_102_1]
    have p := hp i hi
    have p1 := (pl_spec hi).1
    by_cases z : B i = -1
    · have e : filP F B (i + 1) = filP F B i := b64_ext (fun p _ => by
        constructor
        · rintro ⟨j, a, b, c⟩
          by_cases q : j = i
          · subst q; exact absurd z c
          · exact ⟨j, by omega, b, c⟩
        · rintro ⟨j, a, b⟩; exact ⟨j, by omega, b⟩)
      rw [e] at ih
      rw [hBe] at z
      simp (disch := first | omega | assumption | exact rfl) only [U_102_2, U_102_3, U_102_4, XX, QQ, WW, KK, QX, SHs, RRs, Nat.reduceAdd, Nat.reduceMul, Nat.reduceLeDiff, Nat.reduceEqDiff, List.length_cons, List.length_nil, decide_true, decide_false, Bool.true_and, Bool.and_true, Bool.false_and, Bool.and_false, false_and, and_false, Bool.false_eq_true, Bool.true_eq_false, reduceCtorEq, eq_self, if_true, if_false, true_and, and_true, not_true_eq_false, not_false_eq_true, if_pos, if_neg, z_ite_not, h1, h2, h3, h5, h6, hc, p, z]
      exact ih
    · have e : filP F B (i + 1) = filP F B i ||| 2 ^ pl F i := by
        unfold filP
        rw [b64_ins p1]
        apply b64_ext
        intro p _
        constructor
        · rintro ⟨j, a, b, c⟩
          by_cases q : j = i
          · subst q; exact .inr b
          · exact .inl ⟨j, by omega, b, c⟩
        · rintro (⟨j, a, b⟩ | q)
          · exact ⟨j, by omega, b⟩
          · exact ⟨i, by omega, q, z⟩
      rw [e] at ih
      rw [hBe] at z
      simp (disch := first | omega | assumption | exact rfl) only [U_102_2, U_102_3, U_102_4, XX, QQ, WW, KK, QX, SHs, RRs, Nat.reduceAdd, Nat.reduceMul, Nat.reduceLeDiff, Nat.reduceEqDiff, List.length_cons, List.length_nil, decide_true, decide_false, Bool.true_and, Bool.and_true, Bool.false_and, Bool.and_false, false_and, and_false, Bool.false_eq_true, Bool.true_eq_false, reduceCtorEq, eq_self, if_true, if_false, true_and, and_true, not_true_eq_false, not_false_eq_true, if_pos, if_neg, z_ite_not, h1, h2, h3, h5, h6, hc, p, z, fb_orL, Nat.one_mul]
      exact ih
def swp (b : Nat → Int32) (i j : Nat) : Nat → Int32 := va_up (va_up b i (b j)) j (b i)
theorem s_exchange {X : Nat × (Nat → Int32)} {d : Nat} {M : Mem} {W F i j : Nat} (hd : 2 ≤ d) (hW : WG M W F) (hi : i < pop F) (hj : j < pop F) : callF X d 103 [.ref W, .int (nI i), .int (nI j)] M = some (none, m_rI M (W + 1) (swp (m_I M (W + 1)) i j)) := by
  obtain ⟨⟨h1, h2, h3, h4, h5, h6, h7⟩, hF, h24, hj, hc, hp, ht⟩ := hW
  refine callF_at (by omega) (by decide) (Nat.le_of_ble_eq_true rfl) (fun d _ => ?_)
  show Ev X d 103 0 [.ref W, .int (nI i), .int (nI j), .retAddr 0] [] M _
  simp (disch := first | omega | assumption | exact rfl) only [U_103_0, U_103_1, U_103_2, U_103_3, XX, QQ, WW, KK, QX, SHs, RRs, Nat.reduceAdd, Nat.reduceMul, Nat.reduceLeDiff, Nat.reduceEqDiff, List.length_cons, List.length_nil, decide_true, decide_false, Bool.true_and, Bool.and_true, Bool.false_and, Bool.and_false, false_and, and_false, Bool.false_eq_true, Bool.true_eq_false, reduceCtorEq, eq_self, if_true, if_false, true_and, and_true, not_true_eq_false, not_false_eq_true, if_pos, if_neg, z_ite_not, h1, h2, h5, hc, s_isOf, swp]
/-- cell i with those that touch it, as a set of cells -/
noncomputable def wtc (F i : Nat) : Nat := bs (fun c => c = i ∨ (c < pop F ∧ adj (pl F i) (pl F c)))
theorem s_withTouching {X : Nat × (Nat → Int32)} {d : Nat} {M : Mem} {W F i : Nat} (hd : 2 ≤ d) (hW : WG M W F) (hi : i < pop F) : callF X d 104 [.ref W, .int (nI i)] M = some (some (.int (nI (wtc F i))), M) := by
  obtain ⟨⟨h1, h2, h3, h4, h5, h6, h7⟩, hF, h24, hj, hc, hp, ht⟩ := hW
  refine callF_at (by omega) (by decide) (Nat.le_of_ble_eq_true rfl) (fun d _ => ?_)
  show Ev X d 104 0 [.ref W, .int (nI i), .retAddr 0, .retAddr 0, .retAddr 0] [] M _
  simp (disch := first | omega | assumption | exact rfl) only [U_104_0, U_104_1, U_104_2, XX, QQ, WW, KK, QX, SHs, RRs, Nat.reduceAdd, Nat.reduceMul, Nat.reduceLeDiff, Nat.reduceEqDiff, List.length_cons, List.length_nil, decide_true, decide_false, Bool.true_and, Bool.and_true, Bool.false_and, Bool.and_false, false_and, and_false, Bool.false_eq_true, Bool.true_eq_false, reduceCtorEq, eq_self, if_true, if_false, true_and, and_true, not_true_eq_false, not_false_eq_true, if_pos, if_neg, z_ite_not, h1, hc, s_isOf]
  have ef : bs (fun c => c = i ∨ ∃ s', s' < 4 ∧ tch F i s' = nI c) = wtc F i := by
    apply bs_ext
    intro c hc
    constructor
    · rintro (rfl | ⟨s', hs, e1⟩)
      · exact .inl rfl
      · rcases tch_in (s := s') hi with q | ⟨j', hj', q, q2, _⟩
        · rw [q] at e1; exact absurd e1.symm (nI_ne (by omega))
        · have : j' = c := nI_inj (by omega) (by omega) (q.symm.trans e1)
          subst this; exact .inr ⟨hj', q2⟩
    · rintro (rfl | ⟨h, e⟩)
      · exact .inl rfl
      · obtain ⟨s', hs, e⟩ := adj_tch hi h e
        exact .inr ⟨s', hs, e⟩
  rw [← ef, show 2 ^ i = bs (fun c => c = i ∨ ∃ s', s' < 0 ∧ tch F i s' = nI c) by
    have := bs_ins (P := fun _ => False) (b := i) (by omega)
    rw [bs_0 (fun _ _ h => h), Nat.zero_or] at this
    rw [this]
    apply bs_ext
    intro c _
    constructor
    · rintro (h | h)
      · exact h.elim
      · exact .inl h
    · rintro (h | ⟨s', h, _⟩)
      · exact .inr h
      · omega]
  refine lp0 (n := 4) (P := fun s => ∀ u : Value, Ev X d 104 3 [.ref W, .int (nI i), .int (nI (bs (fun c => c = i ∨ ∃ s', s' < s ∧ tch F i s' = nI c))), .int (nI s), u] [] M (some (.int (nI (bs (fun c => c = i ∨ ∃ s', s' < 4 ∧ tch F i s' = nI c)))), M)) ?_ ?_ _
  · intro u
    rw [U_104_3]
    simp (disch := first | omega | assumption | exact rfl) only [U_104_8, XX, QQ, WW, KK, QX, SHs, RRs, Nat.reduceAdd, Nat.reduceMul, Nat.reduceLeDiff, Nat.reduceEqDiff, List.length_cons, List.length_nil, decide_true, decide_false, Bool.true_and, Bool.and_true, Bool.false_and, Bool.and_false, false_and, and_false, Bool.false_eq_true, Bool.true_eq_false, reduceCtorEq, eq_self, if_true, if_false, true_and, and_true, not_true_eq_false, not_false_eq_true, if_pos, if_neg, z_ite_not]
  · intro s hs ih u
    rw [U_104_3]
    have t := ht i s hi hs
    rcases tch_in (s := s) hi with q | ⟨j, hj, q, _, _⟩
    · have e : bs (fun c => c = i ∨ ∃ s', s' < s + 1 ∧ tch F i s' = nI c) = bs (fun c => c = i ∨ ∃ s', s' < s ∧ tch F i s' = nI c) ||| 0 := by
        rw [Nat.or_zero]
        exact bs_ext (fun c _ => by
          constructor
          · rintro (h | ⟨s', a1, a3⟩)
            · exact .inl h
            · rcases Nat.lt_or_ge s' s with z | z
              · exact .inr ⟨s', z, a3⟩
              · have : s' = s := by omega
                subst this; rw [q] at a3; exact absurd a3.symm (nI_ne (by omega))
          · rintro (h | ⟨s', a1, z⟩)
            · exact .inl h
            · exact .inr ⟨s', by omega, z⟩)
      rw [e] at ih
      simp (disch := first | omega | assumption | exact rfl) only [U_104_4, U_104_5, U_104_6, U_104_7, XX, QQ, WW, KK, QX, SHs, RRs, Nat.reduceAdd, Nat.reduceMul, Nat.reduceLeDiff, Nat.reduceEqDiff, List.length_cons, List.length_nil, decide_true, decide_false, Bool.true_and, Bool.and_true, Bool.false_and, Bool.and_false, false_and, and_false, Bool.false_eq_true, Bool.true_eq_false, reduceCtorEq, eq_self, if_true, if_false, true_and, and_true, not_true_eq_false, not_false_eq_true, if_pos, if_neg, z_ite_not, h1, h4, h7, hc, t, q, fa_or]
      exact ih _
    · have e : bs (fun c => c = i ∨ ∃ s', s' < s + 1 ∧ tch F i s' = nI c) = bs (fun c => c = i ∨ ∃ s', s' < s ∧ tch F i s' = nI c) ||| 2 ^ j := by
        rw [bs_ins (by omega)]
        exact bs_ext (fun c _ => by
          constructor
          · rintro (h | ⟨s', a1, a3⟩)
            · exact .inl (.inl h)
            · rcases Nat.lt_or_ge s' s with z | z
              · exact .inl (.inr ⟨s', z, a3⟩)
              · have : s' = s := by omega
                subst this; rw [q] at a3; exact .inr (nI_inj (by omega) (by omega) a3).symm
          · rintro ((h | ⟨s', a1, z⟩) | rfl)
            · exact .inl h
            · exact .inr ⟨s', by omega, z⟩
            · exact .inr ⟨s, by omega, q⟩)
      rw [e] at ih
      simp (disch := first | omega | assumption | exact rfl) only [U_104_4, U_104_5, U_104_6, U_104_7, XX, QQ, WW, KK, QX, SHs, RRs, Nat.reduceAdd, Nat.reduceMul, Nat.reduceLeDiff, Nat.reduceEqDiff, List.length_cons, List.length_nil, decide_true, decide_false, Bool.true_and, Bool.and_true, Bool.false_and, Bool.and_false, false_and, and_false, Bool.false_eq_true, Bool.true_eq_false, reduceCtorEq, eq_self, if_true, if_false, true_and, and_true, not_true_eq_false, not_false_eq_true, if_pos, if_neg, z_ite_not, h1, h4, h7, hc, t, q, fa_or]
      exact ih _
/-- a wall taken over from another -/
def Wcpy (M : Mem) (W V : Nat) : Mem := MW M W (va_up (m_J M W) 0 (m_J M V 0)) (va_up (m_I M W) 1 (m_I M V 1)) (va_cpy (m_I M (V + 1)) (m_I M (W + 1)) 0 0 24) (va_cpy (m_I M (V + 2)) (m_I M (W + 2)) 0 0 24) (va_cpy (m_I M (V + 3)) (m_I M (W + 3)) 0 0 96)
theorem s_copyW {X : Nat × (Nat → Int32)} {d : Nat} {M : Mem} {W V : Nat} (hd : 1 ≤ d) (hW : WA M W) (hV : WA M V) (hVW : V + 3 < W ∨ W + 3 < V) : callF X d 95 [.ref W, .ref V] M = some (none, Wcpy M W V) := by
  obtain ⟨h1, h2, h3, h4, h5, h6, h7⟩ := hW
  obtain ⟨g1, g2, g3, g4, g5, g6, g7⟩ := hV
  refine callF_at (by omega) (by decide) (Nat.le_of_ble_eq_true rfl) (fun d _ => ?_)
  show Ev X d 95 0 [.ref W, .ref V] [] M _
  refine (congrArg (fun z => Ev X d 95 0 [.ref W, .ref V] [] z (none, Wcpy M W V)) (@mw_id M W)).mpr ?_
  simp (disch := first | omega | assumption | exact rfl) only [U_95_0, XX, QQ, WW, KK, QX, SHs, RRs, Nat.reduceAdd, Nat.reduceMul, Nat.reduceLeDiff, Nat.reduceEqDiff, List.length_cons, List.length_nil, decide_true, decide_false, Bool.true_and, Bool.and_true, Bool.false_and, Bool.and_false, false_and, and_false, Bool.false_eq_true, Bool.true_eq_false, reduceCtorEq, eq_self, if_true, if_false, true_and, and_true, not_true_eq_false, not_false_eq_true, if_pos, if_neg, z_ite_not, MWs, h1, h2, h3, h4, h5, h6, h7, g1, g2, g3, g4, g5, g6, g7, vu_vu]
  rfl
theorem va_cpy0 {f g : Nat → Int32} {n k : Nat} (h : k < n) : va_cpy f g 0 0 n k = f k := by
  unfold va_cpy; rw [if_pos ⟨by omega, by omega⟩, Nat.zero_add, Nat.sub_zero]
theorem Wcpy_WG {M : Mem} {W V F : Nat} (hW : WA M W) (hV : WG M V F) : WG (Wcpy M W V) W F := by
  obtain ⟨_, hF, h24, hj, hc, hp, ht⟩ := hV
  refine ⟨hW, hF, h24, ?_, ?_, ?_, ?_⟩
  · unfold Wcpy; rw [mw_J, vu_eq, hj]
  · unfold Wcpy; rw [mw_I0, vu_eq, hc]
  · intro i hi; unfold Wcpy; rw [mw_I2, va_cpy0 (by omega), hp i hi]
  · intro i s hi hs; unfold Wcpy; rw [mw_I3, va_cpy0 (by omega), ht i s hi hs]
theorem Wcpy_B {M : Mem} {W V i : Nat} (hi : i < 24) : m_I (Wcpy M W V) (W + 1) i = m_I M (V + 1) i := by unfold Wcpy; rw [mw_I1, va_cpy0 hi]
