/-! ===== the reference: bad ones, kept ones ===== -/
theorem n_bit2 {a k : Nat} : nI (a / 2 ^ k &&& 1) = bI (a.testBit k) := by rw [← fa_and]; exact n_bit
theorem r_marks {X : Nat × (Nat → Int32)} {d : Nat} {I : Nat → Nat → Int32} {J : Nat → Nat → Int64} {x : Nat} {mks : Nat → Nat} (hd : 1 ≤ d) (hx : x < 2 ^ 24) (hm : ∀ k, k < 24 → I 178 (10 + k) = nI (mks k)) (hm4 : ∀ k, k < 24 → mks k < 4) : callF X d 207 [.ref 177, .int (nI x)] (mk I J) = some (some (.int (nI (bs (fun m => ∃ c, c < 24 ∧ x.testBit c = true ∧ mks c = m)))), mk I J) := by
  refine callF_at (by omega) (by decide) (Nat.le_of_ble_eq_true rfl) (fun d _ => ?_)
  show Ev X d 207 0 [.ref 177, .int (nI x), .retAddr 0, .retAddr 0] [] ( mk I J) _
  simp (disch := first | omega | assumption | exact rfl) only [U_207_0, XX, QQ, WW, KK, QX, SHs, RRs, Nat.reduceAdd, Nat.reduceMul, Nat.reduceLeDiff, Nat.reduceEqDiff, List.length_cons, List.length_nil, decide_true, decide_false, Bool.true_and, Bool.and_true, Bool.false_and, Bool.and_false, false_and, and_false, Bool.false_eq_true, Bool.true_eq_false, reduceCtorEq, eq_self, if_true, if_false, true_and, and_true, not_true_eq_false, not_false_eq_true, if_pos, if_neg, z_ite_not]
  refine lpI (n := 24) (P := fun k => Ev X d 207 1 [.ref 177, .int (nI x), .int (nI (bs (fun m => ∃ c, c < k ∧ x.testBit c = true ∧ mks c = m))), .int (nI k)] [] (mk I J) (some (.int (nI (bs (fun m => ∃ c, c < 24 ∧ x.testBit c = true ∧ mks c = m)))), mk I J)) ?_ ?_ (fun L => by
    rw [bs_0 (fun c _ => by rintro ⟨i, h, _⟩; omega)] at L; exact L)
  · rw [U_207_1]
    simp (disch := first | omega | assumption | exact rfl) only [U_207_5, XX, QQ, WW, KK, QX, SHs, RRs, Nat.reduceAdd, Nat.reduceMul, Nat.reduceLeDiff, Nat.reduceEqDiff, List.length_cons, List.length_nil, decide_true, decide_false, Bool.true_and, Bool.and_true, Bool.false_and, Bool.and_false, false_and, and_false, Bool.false_eq_true, Bool.true_eq_false, reduceCtorEq, eq_self, if_true, if_false, true_and, and_true, not_true_eq_false, not_false_eq_true, if_pos, if_neg, z_ite_not]
  · intro k hk ih
    rw [U_207_1]
    have e1 := hm k hk
    have e2 := hm4 k hk
    by_cases h : x.testBit k = true
    · have e : bs (fun m => ∃ c, c < k + 1 ∧ x.testBit c = true ∧ mks c = m) = bs (fun m => ∃ c, c < k ∧ x.testBit c = true ∧ mks c = m) ||| 2 ^ mks k := by
        rw [bs_ins (by omega)]
        exact bs_ext (fun m _ => by
          constructor
          · rintro ⟨c, h1, h2, h3⟩
            by_cases z : c = k
            · subst z; exact .inr h3.symm
            · exact .inl ⟨c, by omega, h2, h3⟩
          · rintro (⟨c, h1, h2⟩ | rfl)
            · exact ⟨c, by omega, h2⟩
            · exact ⟨k, by omega, h, rfl⟩)
      rw [e] at ih
      simp (disch := first | omega | assumption | exact rfl) only [U_207_2, U_207_3, U_207_4, XX, QQ, WW, KK, QX, SHs, RRs, Nat.reduceAdd, Nat.reduceMul, Nat.reduceLeDiff, Nat.reduceEqDiff, List.length_cons, List.length_nil, decide_true, decide_false, Bool.true_and, Bool.and_true, Bool.false_and, Bool.and_false, false_and, and_false, Bool.false_eq_true, Bool.true_eq_false, reduceCtorEq, eq_self, if_true, if_false, true_and, and_true, not_true_eq_false, not_false_eq_true, if_pos, if_neg, z_ite_not, h, e1, fa_or]
      exact ih
    · have h' : x.testBit k = false := by simpa using h
      have e : bs (fun m => ∃ c, c < k + 1 ∧ x.testBit c = true ∧ mks c = m) = bs (fun m => ∃ c, c < k ∧ x.testBit c = true ∧ mks c = m) := bs_ext (fun m _ => by
          constructor
          · rintro ⟨c, h1, h2, h3⟩
            by_cases z : c = k
            · subst z; exact absurd h2 h
            · exact ⟨c, by omega, h2, h3⟩
          · rintro ⟨c, h1, h2⟩; exact ⟨c, by omega, h2⟩)
      rw [e] at ih
      simp (disch := first | omega | assumption | exact rfl) only [U_207_2, U_207_3, U_207_4, XX, QQ, WW, KK, QX, SHs, RRs, Nat.reduceAdd, Nat.reduceMul, Nat.reduceLeDiff, Nat.reduceEqDiff, List.length_cons, List.length_nil, decide_true, decide_false, Bool.true_and, Bool.and_true, Bool.false_and, Bool.and_false, false_and, and_false, Bool.false_eq_true, Bool.true_eq_false, reduceCtorEq, eq_self, if_true, if_false, true_and, and_true, not_true_eq_false, not_false_eq_true, if_pos, if_neg, z_ite_not, h', e1, fa_or]
      exact ih
theorem mk_and {x y : Nat} {mks : Nat → Nat} (hx : x < 2 ^ 24) (hy : y < 2 ^ 24) (hm4 : ∀ k, k < 24 → mks k < 4) : bs (fun m => ∃ c, c < 24 ∧ x.testBit c = true ∧ mks c = m) &&& bs (fun m => ∃ c, c < 24 ∧ y.testBit c = true ∧ mks c = m) ≠ 0 ↔ ∃ c c', x.testBit c = true ∧ y.testBit c' = true ∧ mks c = mks c' := by
  rw [bs_and, bs_n0]
  constructor
  · rintro ⟨m, h1, ⟨c, h2, h3, h4⟩, c', h5, h6, h7⟩
    exact ⟨c, c', h3, h6, h4.trans h7.symm⟩
  · rintro ⟨c, c', h1, h2, h3⟩
    have := tb_lt hx h1
    have := hm4 c this
    exact ⟨mks c, by omega, ⟨c, tb_lt hx h1, h1, rfl⟩, c', tb_lt hy h2, h2, h3.symm⟩
theorem hasO_sym {al : Nat} {mks : Nat → Nat} {x y : Nat} : hasO al mks x y ↔ hasO al mks y x := by
  unfold hasO
  rw [Nat.and_comm]
  constructor
  · rintro (h | ⟨h, c, c', h1, h2, h3⟩)
    · exact .inl h
    · exact .inr ⟨h, c', c, h2, h1, h3.symm⟩
  · rintro (h | ⟨h, c, c', h1, h2, h3⟩)
    · exact .inl h
    · exact .inr ⟨h, c', c, h2, h1, h3.symm⟩
/-- what is compared, in the reference's fields -/
def NS (I : Nat → Nat → Int32) (oi ni : Nat) (x y : Nat → Nat) : Prop := I 177 26 = nI oi ∧ I 177 27 = nI ni ∧ (∀ b, b < 24 → I 186 b = nI (x b)) ∧ (∀ b, b < 24 → I 187 b = nI (y b)) ∧ oi < 2 ^ 24 ∧ ni < 2 ^ 24 ∧ (∀ b, x b < 2 ^ 24) ∧ (∀ b, y b < 2 ^ 24)
theorem r_hasOld {X : Nat × (Nat → Int32)} {d : Nat} {I : Nat → Nat → Int32} {J : Nat → Nat → Int64} {al oi ni b : Nat} {mks x y : Nat → Nat} (hd : 2 ≤ d) (hS : NS I oi ni x y) (hal : I 178 1 = nI al) (hal2 : al < 2) (hm : ∀ k, k < 24 → I 178 (10 + k) = nI (mks k)) (hm4 : ∀ k, k < 24 → mks k < 4) (hb : b < 24) : callF X d 208 [.ref 177, .int (nI b)] (mk I J) = some (some (.int (bI (cd (oi.testBit b = true ∧ hasO al mks (y b) (x b))))), mk I J) := by
  obtain ⟨s1, s2, s3, s4, s5, s6, s7, s8⟩ := hS
  refine callF_at (by omega) (by decide) (Nat.le_of_ble_eq_true rfl) (fun d _ => ?_)
  show Ev X d 208 0 [.ref 177, .int (nI b)] [] ( mk I J) _
  have e3 := s3 b hb; have e4 := s4 b hb; have e7 := s7 b; have e8 := s8 b
  have a1 := and_lt24 (y := y b) e7
  have m1 := r_marks (X := X) (d := d) (J := J) (by omega) e7 hm hm4
  have m2 := r_marks (X := X) (d := d) (J := J) (by omega) e8 hm hm4
  have mi := mk_and e7 e8 hm4
  obtain ⟨mx, hmx⟩ : ∃ mx, mx = bs (fun m => ∃ c, c < 24 ∧ (x b).testBit c = true ∧ mks c = m) := ⟨_, rfl⟩
  obtain ⟨my, hmy⟩ : ∃ my, my = bs (fun m => ∃ c, c < 24 ∧ (y b).testBit c = true ∧ mks c = m) := ⟨_, rfl⟩
  have a2 : mx &&& my < 2 ^ 24 := and_lt24 (by rw [hmx]; exact bs_lt _)
  rw [← hmx] at m1 mi
  rw [← hmy] at m2 mi
  by_cases h : oi.testBit b = true
  · by_cases h1 : x b &&& y b = 0
    · by_cases h2 : al = 1
      · by_cases h3 : mx &&& my = 0
        · have c : cd (oi.testBit b = true ∧ hasO al mks (y b) (x b)) = false := by
            rw [cd_f]
            rintro ⟨_, q⟩
            rcases hasO_sym.mp q with q | ⟨_, q⟩
            · exact q h1
            · exact (mi.mpr q) h3
          rw [c]
          simp (disch := first | omega | assumption | exact rfl) only [U_208_0, U_208_1, U_208_2, U_208_3, U_208_4, U_208_5, U_208_6, XX, QQ, WW, KK, QX, SHs, RRs, Nat.reduceAdd, Nat.reduceMul, Nat.reduceLeDiff, Nat.reduceEqDiff, List.length_cons, List.length_nil, decide_true, decide_false, Bool.true_and, Bool.and_true, Bool.false_and, Bool.and_false, false_and, and_false, Bool.false_eq_true, Bool.true_eq_false, reduceCtorEq, eq_self, if_true, if_false, true_and, and_true, not_true_eq_false, not_false_eq_true, if_pos, if_neg, z_ite_not, s1, e3, e4, h, hal, fa_and, n_bit2, m1, m2]
        · have c : cd (oi.testBit b = true ∧ hasO al mks (y b) (x b)) = true := by
            rw [cd_iff]
            exact ⟨h, hasO_sym.mp (.inr ⟨h2, mi.mp h3⟩)⟩
          rw [c]
          simp (disch := first | omega | assumption | exact rfl) only [U_208_0, U_208_1, U_208_2, U_208_3, U_208_4, U_208_5, U_208_6, XX, QQ, WW, KK, QX, SHs, RRs, Nat.reduceAdd, Nat.reduceMul, Nat.reduceLeDiff, Nat.reduceEqDiff, List.length_cons, List.length_nil, decide_true, decide_false, Bool.true_and, Bool.and_true, Bool.false_and, Bool.and_false, false_and, and_false, Bool.false_eq_true, Bool.true_eq_false, reduceCtorEq, eq_self, if_true, if_false, true_and, and_true, not_true_eq_false, not_false_eq_true, if_pos, if_neg, z_ite_not, s1, e3, e4, h, hal, fa_and, n_bit2, m1, m2]
      · have c : cd (oi.testBit b = true ∧ hasO al mks (y b) (x b)) = false := by
          rw [cd_f]
          rintro ⟨_, q⟩
          rcases hasO_sym.mp q with q | ⟨q, _⟩
          · exact q h1
          · exact h2 q
        rw [c]
        simp (disch := first | omega | assumption | exact rfl) only [U_208_0, U_208_1, U_208_2, U_208_3, U_208_4, U_208_5, U_208_6, XX, QQ, WW, KK, QX, SHs, RRs, Nat.reduceAdd, Nat.reduceMul, Nat.reduceLeDiff, Nat.reduceEqDiff, List.length_cons, List.length_nil, decide_true, decide_false, Bool.true_and, Bool.and_true, Bool.false_and, Bool.and_false, false_and, and_false, Bool.false_eq_true, Bool.true_eq_false, reduceCtorEq, eq_self, if_true, if_false, true_and, and_true, not_true_eq_false, not_false_eq_true, if_pos, if_neg, z_ite_not, s1, e3, e4, h, hal, fa_and, n_bit2, m1, m2]
    · have c : cd (oi.testBit b = true ∧ hasO al mks (y b) (x b)) = true := by
        rw [cd_iff]; exact ⟨h, hasO_sym.mp (.inl h1)⟩
      rw [c]
      simp (disch := first | omega | assumption | exact rfl) only [U_208_0, U_208_1, U_208_2, U_208_3, U_208_4, U_208_5, U_208_6, XX, QQ, WW, KK, QX, SHs, RRs, Nat.reduceAdd, Nat.reduceMul, Nat.reduceLeDiff, Nat.reduceEqDiff, List.length_cons, List.length_nil, decide_true, decide_false, Bool.true_and, Bool.and_true, Bool.false_and, Bool.and_false, false_and, and_false, Bool.false_eq_true, Bool.true_eq_false, reduceCtorEq, eq_self, if_true, if_false, true_and, and_true, not_true_eq_false, not_false_eq_true, if_pos, if_neg, z_ite_not, s1, e3, e4, h, hal, fa_and, n_bit2, m1, m2]
  · have c : cd (oi.testBit b = true ∧ hasO al mks (y b) (x b)) = false := by
      rw [cd_f]; exact fun q => h q.1
    have h' : oi.testBit b = false := by simpa using h
    rw [c]
    simp (disch := first | omega | assumption | exact rfl) only [U_208_0, U_208_1, U_208_2, U_208_3, U_208_4, U_208_5, U_208_6, XX, QQ, WW, KK, QX, SHs, RRs, Nat.reduceAdd, Nat.reduceMul, Nat.reduceLeDiff, Nat.reduceEqDiff, List.length_cons, List.length_nil, decide_true, decide_false, Bool.true_and, Bool.and_true, Bool.false_and, Bool.and_false, false_and, and_false, Bool.false_eq_true, Bool.true_eq_false, reduceCtorEq, eq_self, if_true, if_false, true_and, and_true, not_true_eq_false, not_false_eq_true, if_pos, if_neg, z_ite_not, s1, e3, e4, h', hal, fa_and, n_bit2, m1, m2]
noncomputable def bdR (al : Nat) (mks : Nat → Nat) (oi ni : Nat) (x y : Nat → Nat) (k : Nat) : Nat := bs (fun b => b < k ∧ ni.testBit b = true ∧ ¬ (oi.testBit b = true ∧ hasO al mks (y b) (x b)))
theorem r_badOnes {X : Nat × (Nat → Int32)} {d : Nat} {I : Nat → Nat → Int32} {J : Nat → Nat → Int64} {al oi ni : Nat} {mks x y : Nat → Nat} (hd : 3 ≤ d) (hS : NS I oi ni x y) (hal : I 178 1 = nI al) (hal2 : al < 2) (hm : ∀ k, k < 24 → I 178 (10 + k) = nI (mks k)) (hm4 : ∀ k, k < 24 → mks k < 4) : callF X d 209 [.ref 177] (mk I J) = some (some (.int (nI (bdR al mks oi ni x y 24))), mk I J) := by
  have s2 := hS.2.1
  have s6 := hS.2.2.2.2.2.1
  refine callF_at (by omega) (by decide) (Nat.le_of_ble_eq_true rfl) (fun d _ => ?_)
  show Ev X d 209 0 [.ref 177, .retAddr 0, .retAddr 0] [] ( mk I J) _
  simp (disch := first | omega | assumption | exact rfl) only [U_209_0, XX, QQ, WW, KK, QX, SHs, RRs, Nat.reduceAdd, Nat.reduceMul, Nat.reduceLeDiff, Nat.reduceEqDiff, List.length_cons, List.length_nil, decide_true, decide_false, Bool.true_and, Bool.and_true, Bool.false_and, Bool.and_false, false_and, and_false, Bool.false_eq_true, Bool.true_eq_false, reduceCtorEq, eq_self, if_true, if_false, true_and, and_true, not_true_eq_false, not_false_eq_true, if_pos, if_neg, z_ite_not]
  refine lpI (n := 24) (P := fun k => Ev X d 209 1 [.ref 177, .int (nI (bdR al mks oi ni x y k)), .int (nI k)] [] (mk I J) (some (.int (nI (bdR al mks oi ni x y 24))), mk I J)) ?_ ?_ (fun L => by
    have e : bdR al mks oi ni x y 0 = 0 := bs_0 (fun c _ => by rintro ⟨h, _⟩; omega)
    rw [e] at L; exact L)
  · rw [U_209_1]
    simp (disch := first | omega | assumption | exact rfl) only [U_209_7, XX, QQ, WW, KK, QX, SHs, RRs, Nat.reduceAdd, Nat.reduceMul, Nat.reduceLeDiff, Nat.reduceEqDiff, List.length_cons, List.length_nil, decide_true, decide_false, Bool.true_and, Bool.and_true, Bool.false_and, Bool.and_false, false_and, and_false, Bool.false_eq_true, Bool.true_eq_false, reduceCtorEq, eq_self, if_true, if_false, true_and, and_true, not_true_eq_false, not_false_eq_true, if_pos, if_neg, z_ite_not]
  · intro k hk ih
    rw [U_209_1]
    have ho := r_hasOld (X := X) (d := d) (J := J) (by omega) hS hal hal2 hm hm4 hk
    by_cases h : ni.testBit k = true ∧ ¬ (oi.testBit k = true ∧ hasO al mks (y k) (x k))
    · have e : bdR al mks oi ni x y (k + 1) = bdR al mks oi ni x y k ||| 2 ^ k := by
        unfold bdR
        rw [bs_ins hk]
        exact bs_ext (fun m _ => by
          constructor
          · rintro ⟨h1, h2⟩
            by_cases z : m = k
            · exact .inr z
            · exact .inl ⟨by omega, h2⟩
          · rintro (⟨h1, h2⟩ | rfl)
            · exact ⟨by omega, h2⟩
            · exact ⟨by omega, h⟩)
      rw [e] at ih
      have h1 := h.1
      have h2 := cd_f.mpr h.2
      simp (disch := first | omega | assumption | exact rfl) only [U_209_2, U_209_3, U_209_4, U_209_5, U_209_6, XX, QQ, WW, KK, QX, SHs, RRs, Nat.reduceAdd, Nat.reduceMul, Nat.reduceLeDiff, Nat.reduceEqDiff, List.length_cons, List.length_nil, decide_true, decide_false, Bool.true_and, Bool.and_true, Bool.false_and, Bool.and_false, false_and, and_false, Bool.false_eq_true, Bool.true_eq_false, reduceCtorEq, eq_self, if_true, if_false, true_and, and_true, not_true_eq_false, not_false_eq_true, if_pos, if_neg, z_ite_not, s2, h1, ho, h2, fa_or]
      exact ih
    · have e : bdR al mks oi ni x y (k + 1) = bdR al mks oi ni x y k ||| 0 := by
        rw [Nat.or_zero]
        exact bs_ext (fun m _ => by
          constructor
          · rintro ⟨h1, h2⟩
            by_cases z : m = k
            · subst z; exact absurd h2 h
            · exact ⟨by omega, h2⟩
          · rintro ⟨h1, h2⟩
            exact ⟨by omega, h2⟩)
      rw [e] at ih
      by_cases h1 : ni.testBit k = true
      · have h2 : cd (oi.testBit k = true ∧ hasO al mks (y k) (x k)) = true := by
          rw [cd_iff]; exact Classical.byContradiction (fun z => h ⟨h1, z⟩)
        simp (disch := first | omega | assumption | exact rfl) only [U_209_2, U_209_3, U_209_4, U_209_5, U_209_6, XX, QQ, WW, KK, QX, SHs, RRs, Nat.reduceAdd, Nat.reduceMul, Nat.reduceLeDiff, Nat.reduceEqDiff, List.length_cons, List.length_nil, decide_true, decide_false, Bool.true_and, Bool.and_true, Bool.false_and, Bool.and_false, false_and, and_false, Bool.false_eq_true, Bool.true_eq_false, reduceCtorEq, eq_self, if_true, if_false, true_and, and_true, not_true_eq_false, not_false_eq_true, if_pos, if_neg, z_ite_not, s2, h1, ho, h2, fa_or]
        exact ih
      · have h1' : ni.testBit k = false := by simpa using h1
        simp (disch := first | omega | assumption | exact rfl) only [U_209_2, U_209_3, U_209_4, U_209_5, U_209_6, XX, QQ, WW, KK, QX, SHs, RRs, Nat.reduceAdd, Nat.reduceMul, Nat.reduceLeDiff, Nat.reduceEqDiff, List.length_cons, List.length_nil, decide_true, decide_false, Bool.true_and, Bool.and_true, Bool.false_and, Bool.and_false, false_and, and_false, Bool.false_eq_true, Bool.true_eq_false, reduceCtorEq, eq_self, if_true, if_false, true_and, and_true, not_true_eq_false, not_false_eq_true, if_pos, if_neg, z_ite_not, s2, h1', fa_or]
        exact ih
theorem r_keptOnes {X : Nat × (Nat → Int32)} {d : Nat} {I : Nat → Nat → Int32} {J : Nat → Nat → Int64} {oi ni : Nat} {x y : Nat → Nat} (hd : 2 ≤ d) (hS : NS I oi ni x y) : callF X d 210 [.ref 177] (mk I J) = some (some (.int (nI (fb_sm (fun b => pop (x b &&& y b)) 24 / 2))), mk I J) := by
  obtain ⟨s1, s2, s3, s4, s5, s6, s7, s8⟩ := hS
  refine callF_at (by omega) (by decide) (Nat.le_of_ble_eq_true rfl) (fun d _ => ?_)
  show Ev X d 210 0 [.ref 177, .retAddr 0, .retAddr 0] [] ( mk I J) _
  simp (disch := first | omega | assumption | exact rfl) only [U_210_0, XX, QQ, WW, KK, QX, SHs, RRs, Nat.reduceAdd, Nat.reduceMul, Nat.reduceLeDiff, Nat.reduceEqDiff, List.length_cons, List.length_nil, decide_true, decide_false, Bool.true_and, Bool.and_true, Bool.false_and, Bool.and_false, false_and, and_false, Bool.false_eq_true, Bool.true_eq_false, reduceCtorEq, eq_self, if_true, if_false, true_and, and_true, not_true_eq_false, not_false_eq_true, if_pos, if_neg, z_ite_not]
  have hb : ∀ k, fb_sm (fun b => pop (x b &&& y b)) k ≤ k * 64 := fun k => fb_sm_bound (fun _ _ => pop_le _)
  refine lp0 (n := 24) (P := fun k => Ev X d 210 1 [.ref 177, .int (nI (fb_sm (fun b => pop (x b &&& y b)) k)), .int (nI k)] [] (mk I J) (some (.int (nI (fb_sm (fun b => pop (x b &&& y b)) 24 / 2))), mk I J)) ?_ ?_
  · rw [U_210_1]
    have := hb 24
    have b3 : (nI 2 : Int32) ≠ 0 := by decide +kernel
    simp (disch := first | omega | assumption | exact rfl) only [U_210_3, XX, QQ, WW, KK, QX, SHs, RRs, Nat.reduceAdd, Nat.reduceMul, Nat.reduceLeDiff, Nat.reduceEqDiff, List.length_cons, List.length_nil, decide_true, decide_false, Bool.true_and, Bool.and_true, Bool.false_and, Bool.and_false, false_and, and_false, Bool.false_eq_true, Bool.true_eq_false, reduceCtorEq, eq_self, if_true, if_false, true_and, and_true, not_true_eq_false, not_false_eq_true, if_pos, if_neg, z_ite_not, q_div, b3]
  · intro k hk ih
    rw [U_210_1]
    rw [fb_sm_succ] at ih
    have e3 := s3 k hk; have e4 := s4 k hk
    have a := and_lt24 (y := y k) (s7 k)
    simp (disch := first | omega | assumption | exact rfl) only [U_210_2, XX, QQ, WW, KK, QX, SHs, RRs, Nat.reduceAdd, Nat.reduceMul, Nat.reduceLeDiff, Nat.reduceEqDiff, List.length_cons, List.length_nil, decide_true, decide_false, Bool.true_and, Bool.and_true, Bool.false_and, Bool.and_false, false_and, and_false, Bool.false_eq_true, Bool.true_eq_false, reduceCtorEq, eq_self, if_true, if_false, true_and, and_true, not_true_eq_false, not_false_eq_true, if_pos, if_neg, z_ite_not, e3, e4, fa_and, r_count]
    exact ih
/-- the reference's words are the class's -/
theorem bad_eq {al : Nat} {mks : Nat → Nat} {F1 F2 : Nat} {B1 B2 : Nat → Int32} : bdR al mks (ins F1 B1) (ins F2 B2) (nr F1 B1) (nr F2 B2) 24 = badS F1 B1 F2 B2 al mks := bs_ext (fun b hb => by
  unfold ins
  rw [bs_tb, bs_tb]
  constructor
  · rintro ⟨_, ⟨_, h1⟩, h2⟩
    refine ⟨h1, fun q => ?_⟩
    by_cases z : ∃ i, i < pop F1 ∧ B1 i = nI b
    · exact h2 ⟨⟨hb, z⟩, q⟩
    · rw [nr_no (fun i hi e => z ⟨i, hi, e⟩)] at q
      rcases q with q | ⟨_, c, c', _, q, _⟩
      · rw [Nat.and_zero] at q; exact q rfl
      · rw [Nat.zero_testBit] at q; cases q
  · rintro ⟨h1, h2⟩
    exact ⟨hb, ⟨hb, h1⟩, fun q => h2 q.2⟩)
theorem kept_eq {F1 F2 : Nat} {B1 B2 : Nat → Int32} : fb_sm (fun b => pop (nr F1 B1 b &&& nr F2 B2 b)) 24 = twi F1 B1 F2 B2 := by
  unfold twi
  exact fb_sm_cong (fun b _ => by rw [Nat.and_comm])
theorem ins_lt (F : Nat) (B : Nat → Int32) : ins F B < 2 ^ 24 := bs_lt _
noncomputable def Icmp (I : Nat → Nat → Int32) (F1 : Nat) (B1 : Nat → Int32) (F2 : Nat) (B2 : Nat → Int32) : Nat → Nat → Int32 := va_up (va_up (va_up I 186 (gN F1 B1 (I 186) (pop F1))) 187 (gN F2 B2 (I 187) (pop F2))) 177 (va_up (va_up (I 177) 26 (nI (ins F1 B1))) 27 (nI (ins F2 B2)))
theorem Icmp_NS {I : Nat → Nat → Int32} {F1 F2 : Nat} {B1 B2 : Nat → Int32} : NS (Icmp I F1 B1 F2 B2) (ins F1 B1) (ins F2 B2) (nr F1 B1) (nr F2 B2) := by
  refine ⟨?_, ?_, fun b hb => ?_, fun b hb => ?_, ins_lt _ _, ins_lt _ _, nr_lt _ _, nr_lt _ _⟩
  · unfold Icmp; rw [vu_eq, vu_ne (by omega), vu_eq]
  · unfold Icmp; rw [vu_eq, vu_eq]
  · unfold Icmp; rw [vu_ne (by omega), vu_ne (by omega), vu_eq]; exact if_pos hb
  · unfold Icmp; rw [vu_ne (by omega), vu_eq]; exact if_pos hb
theorem r_compares {X : Nat × (Nat → Int32)} {d : Nat} {I : Nat → Nat → Int32} {J : Nat → Nat → Int64} {a b F1 F2 : Nat} {B1 B2 : Nat → Int32} (hd : 4 ≤ d) (ha : a < 6) (hb : b < 6) (hR1 : RWl (I 178) a F1 B1) (hB1 : WB B1 (pop F1)) (hR2 : RWl (I 178) b F2 B2) (hB2 : WB B2 (pop F2)) : callF X d 211 [.ref 177, .int (nI a), .int (nI b)] (mk I J) = some (none, mk (Icmp I F1 B1 F2 B2) J) := by
  refine callF_at (by omega) (by decide) (Nat.le_of_ble_eq_true rfl) (fun d _ => ?_)
  show Ev X d 211 0 [.ref 177, .int (nI a), .int (nI b)] [] ( mk I J) _
  have l1 := r_lays (X := X) (d := d) (J := J) (N := 186) (by omega) ha hR1 hB1 rfl (by decide)
  have hR3 : RWl (va_up (va_up I 186 (gN F1 B1 (I 186) (pop F1))) 177 (va_up (I 177) 26 (nI (ins F1 B1))) 178) b F2 B2 := by rw [vu_ne (by omega), vu_ne (by omega)]; exact hR2
  have l2 := r_lays (X := X) (d := d) (J := J) (N := 187) (by omega) hb hR3 hB2 rfl (by decide)
  rw [vu_ne (show 187 ≠ 177 by decide), vu_ne (show 187 ≠ 186 by decide)] at l2
  simp (disch := first | omega | assumption | exact rfl) only [U_211_0, XX, QQ, WW, KK, QX, SHs, RRs, Nat.reduceAdd, Nat.reduceMul, Nat.reduceLeDiff, Nat.reduceEqDiff, List.length_cons, List.length_nil, decide_true, decide_false, Bool.true_and, Bool.and_true, Bool.false_and, Bool.and_false, false_and, and_false, Bool.false_eq_true, Bool.true_eq_false, reduceCtorEq, eq_self, if_true, if_false, true_and, and_true, not_true_eq_false, not_false_eq_true, if_pos, if_neg, z_ite_not, l1, l2]
  unfold Icmp
  rw [vu_cm (a := 177) (b := 187) (by decide), vu_vu]
theorem Icmp_178 {I : Nat → Nat → Int32} {F1 F2 : Nat} {B1 B2 : Nat → Int32} : Icmp I F1 B1 F2 B2 178 = I 178 := by unfold Icmp; rw [vu_ne (by decide), vu_ne (by decide), vu_ne (by decide)]
theorem r_isGood {X : Nat × (Nat → Int32)} {d : Nat} {I : Nat → Nat → Int32} {J : Nat → Nat → Int64} {a b F1 F2 al be : Nat} {B1 B2 : Nat → Int32} {mks : Nat → Nat} (hd : 5 ≤ d) (ha : a < 6) (hb : b < 6) (hR1 : RWl (I 178) a F1 B1) (hB1 : WB B1 (pop F1)) (hR2 : RWl (I 178) b F2 B2) (hB2 : WB B2 (pop F2)) (hal : I 178 1 = nI al) (hal2 : al < 2) (hm : ∀ k, k < 24 → I 178 (10 + k) = nI (mks k)) (hm4 : ∀ k, k < 24 → mks k < 4) (hbe : I 178 2 = nI be) (hbe2 : be ≤ 24) :
    callF X d 212 [.ref 177, .int (nI a), .int (nI b)] (mk I J) = some (some (.int (bI (decide (pop (badS F1 B1 F2 B2 al mks) ≤ be)))), mk (Icmp I F1 B1 F2 B2) J) := by
  refine callF_at (by omega) (by decide) (Nat.le_of_ble_eq_true rfl) (fun d _ => ?_)
  show Ev X d 212 0 [.ref 177, .int (nI a), .int (nI b)] [] ( mk I J) _
  have c := r_compares (X := X) (d := d) (J := J) (by omega) ha hb hR1 hB1 hR2 hB2
  have b1 := r_badOnes (X := X) (d := d) (J := J) (I := Icmp I F1 B1 F2 B2) (by omega) Icmp_NS (by rw [Icmp_178]; exact hal) hal2 (by rw [Icmp_178]; exact hm) hm4
  rw [bad_eq] at b1
  have b2 : badS F1 B1 F2 B2 al mks < 2 ^ 24 := bs_lt _
  have b3 := pop_le (badS F1 B1 F2 B2 al mks)
  by_cases h : pop (badS F1 B1 F2 B2 al mks) ≤ be
  · simp (disch := first | omega | assumption | exact rfl) only [U_212_0, U_212_1, U_212_2, U_212_3, XX, QQ, WW, KK, QX, SHs, RRs, Nat.reduceAdd, Nat.reduceMul, Nat.reduceLeDiff, Nat.reduceEqDiff, List.length_cons, List.length_nil, decide_true, decide_false, Bool.true_and, Bool.and_true, Bool.false_and, Bool.and_false, false_and, and_false, Bool.false_eq_true, Bool.true_eq_false, reduceCtorEq, eq_self, if_true, if_false, true_and, and_true, not_true_eq_false, not_false_eq_true, if_pos, if_neg, z_ite_not, c, b1, r_count, Icmp_178, hbe]
  · simp (disch := first | omega | assumption | exact rfl) only [U_212_0, U_212_1, U_212_2, U_212_3, XX, QQ, WW, KK, QX, SHs, RRs, Nat.reduceAdd, Nat.reduceMul, Nat.reduceLeDiff, Nat.reduceEqDiff, List.length_cons, List.length_nil, decide_true, decide_false, Bool.true_and, Bool.and_true, Bool.false_and, Bool.and_false, false_and, and_false, Bool.false_eq_true, Bool.true_eq_false, reduceCtorEq, eq_self, if_true, if_false, true_and, and_true, not_true_eq_false, not_false_eq_true, if_pos, if_neg, z_ite_not, c, b1, r_count, Icmp_178, hbe]
