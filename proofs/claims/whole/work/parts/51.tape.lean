/-! ===== state, fault, end, feed ===== -/
theorem vu_4 {α : Type} {f : Nat → α} {a b : Nat} {x y x' y' : α} (h : a ≠ b) : va_up (va_up (va_up (va_up f a x) b y) a x') b y' = va_up (va_up f a x') b y' := by
  rw [vu_cm (a := b) (b := a) (fun z => h z.symm), vu_vu, vu_vu]
theorem WRel_2 {I I' : Nat → Nat → Int32} {J J' : Nat → Nat → Int64} (hI : ∀ a, 1 ≤ a → a ≤ 122 → I' a = I a) (hJ : ∀ a, 1 ≤ a → a ≤ 122 → J' a = J a) (h8 : I' 178 = I 178) (h9 : I' 179 = I 179) : (WRel I J 0 178 → WRel I' J' 0 178) ∧ (WRel I J 61 179 → WRel I' J' 61 179) :=
  ⟨fun h => WRel_fr (fun a ha => WA_0 ha) (fun k _ _ => hI k (by omega) (by omega)) (fun k _ _ => hJ k (by omega) (by omega)) h8 h, fun h => WRel_fr (fun a ha => WA_61 ha) (fun k _ _ => hI k (by omega) (by omega)) (fun k _ _ => hJ k (by omega) (by omega)) h9 h⟩
theorem Inv_w {I I' : Nat → Nat → Int32} {J J' : Nat → Nat → Int64} (h : Inv I J) (hI : ∀ a, 1 ≤ a → a ≤ 122 → I' a = I a) (hJ : ∀ a, 1 ≤ a → a ≤ 122 → J' a = J a) (h8 : I' 178 = I 178) (h9 : I' 179 = I 179) (h0 : I' 0 2 = I 0 2) (h7 : I' 177 2 = I 177 2) (ht : ∃ tl, tl ≤ 400 ∧ I' 0 4 = nI tl ∧ I' 177 12 = nI tl ∧ ∀ i, i < tl → ∃ c, c < 256 ∧ I' 123 i = nI c ∧ I' 182 i = nI c) (hf : I' 124 1 = I' 177 19) (hg : I' 124 2 = I' 177 21) : Inv I' J' := by
  obtain ⟨a1, ⟨pb, a2, a3, a4⟩, _, _, _⟩ := h
  have w := WRel_2 (J := J) (J' := J') hI hJ h8 h9
  exact ⟨w.1 a1, ⟨pb, by rw [h0]; exact a2, by rw [h7]; exact a3, fun z => w.2 (a4 z)⟩, ht, hf, hg⟩
theorem b_state {X : Nat × (Nat → Int32)} {d : Nat} {I : Nat → Nat → Int32} {J : Nat → Nat → Int64} {v : Int32} (hd : 1 ≤ d) (h : Inv I J) : Both X d 113 157 [.int v] I J := by
  obtain ⟨⟨⟨s0, al, be, yr, s1⟩, m1⟩, ⟨pb, a2, a3, a4⟩, ht, hf, hg⟩ := h
  refine ⟨I 1 0, va_up I 1 (va_up (I 1) 0 v), J, va_up (va_up I 1 (va_up (I 1) 0 v)) 178 (va_up (I 178) 0 v), ?_, ?_, ?_⟩
  · refine callF_at (by omega) (by decide) (Nat.le_of_ble_eq_true rfl) (fun d _ => ?_)
    show Ev X d 113 0 [.ref 0, .int v, .retAddr 0] [] ( mk I J) _
    simp (disch := first | omega | assumption | exact rfl) only [U_113_0, XX, QQ, WW, KK, QX, SHs, RRs, Nat.reduceAdd, Nat.reduceMul, Nat.reduceLeDiff, Nat.reduceEqDiff, List.length_cons, List.length_nil, decide_true, decide_false, Bool.true_and, Bool.and_true, Bool.false_and, Bool.and_false, false_and, and_false, Bool.false_eq_true, Bool.true_eq_false, reduceCtorEq, eq_self, if_true, if_false, true_and, and_true, not_true_eq_false, not_false_eq_true, if_pos, if_neg, z_ite_not]
  · refine callF_at (by omega) (by decide) (Nat.le_of_ble_eq_true rfl) (fun d _ => ?_)
    show Ev X d 157 0 [.ref 177, .int v, .retAddr 0] [] ( mk (va_up I 1 (va_up (I 1) 0 v)) J) _
    rw [show I 1 0 = I 178 0 from s0]
    simp (disch := first | omega | assumption | exact rfl) only [U_157_0, XX, QQ, WW, KK, QX, SHs, RRs, Nat.reduceAdd, Nat.reduceMul, Nat.reduceLeDiff, Nat.reduceEqDiff, List.length_cons, List.length_nil, decide_true, decide_false, Bool.true_and, Bool.and_true, Bool.false_and, Bool.and_false, false_and, and_false, Bool.false_eq_true, Bool.true_eq_false, reduceCtorEq, eq_self, if_true, if_false, true_and, and_true, not_true_eq_false, not_false_eq_true, if_pos, if_neg, z_ite_not]
  · obtain ⟨m2, m3, m4, m5, m6, m7⟩ := m1
    have r1 : ∀ i, i ≠ 0 → va_up (va_up I 1 (va_up (I 1) 0 v)) 178 (va_up (I 178) 0 v) 178 i = I 178 i := fun i hi => by rw [vu_eq, vu_ne hi]
    have r2 : ∀ k, k ≠ 1 → k ≠ 178 → va_up (va_up I 1 (va_up (I 1) 0 v)) 178 (va_up (I 178) 0 v) k = I k := fun k h1 h2 => by rw [vu_ne h2, vu_ne h1]
    have r3 : ∀ i, i ≠ 0 → va_up (va_up I 1 (va_up (I 1) 0 v)) 178 (va_up (I 178) 0 v) 1 i = I 1 i := fun i hi => by rw [vu_ne (by decide), vu_eq, vu_ne hi]
    refine ⟨⟨⟨?_, al, be, yr, ?_⟩, ?_, ?_, ?_, ?_, ?_, ?_⟩, ⟨pb, ?_, ?_, ?_⟩, ?_, ?_, ?_⟩
    · show va_up (va_up I 1 _) 178 _ 1 0 = va_up (va_up I 1 _) 178 _ 178 0
      rw [vu_ne (by decide), vu_eq, vu_eq, vu_eq, vu_eq]
    · rw [Nat.add_zero] at s1 ⊢
      rw [r3 _ (by decide), r3 _ (by decide), r3 _ (by decide), r1 _ (by decide), r1 _ (by decide), r1 _ (by decide)]
      exact s1
    · obtain ⟨mks, brk, q⟩ := m2
      refine ⟨mks, brk, fun k hk => ?_⟩
      rw [r2 (2 + 0) (by omega) (by omega), r2 (3 + 0) (by omega) (by omega), r1 (10 + k) (by omega), r1 (40 + k) (by omega)]
      exact q k hk
    · obtain ⟨FS, q⟩ := m3
      refine ⟨FS, fun s hs => ?_⟩
      obtain ⟨q1, q2, q3, q4, q5⟩ := q s hs
      refine ⟨q1, q2, q3, ?_, fun i hi => ?_⟩
      · rw [r1 _ (by omega)]; exact q4
      · rw [r1 _ (by omega), r1 _ (by omega)]; exact q5 i hi
    · exact WWl_tr (fun a ha => WA_0 ha) (fun a ha => rfl) (fun a ha => ⟨by rw [r2 _ (by omega) (by omega)], fun i _ => by rw [r2 _ (by omega) (by omega)], fun i _ => by rw [r2 _ (by omega) (by omega)], fun i _ => by rw [r2 _ (by omega) (by omega)]⟩) (fun i _ _ => r1 i (by omega)) m4
    · exact WMt_tr (r3 4 (by decide)) (fun i _ => by rw [r2 _ (by omega) (by omega)]) (fun i _ _ => r1 i (by omega)) m5
    · exact WHi_tr (by rw [r2 _ (by omega) (by omega)]) (fun i _ => ⟨by rw [r2 _ (by omega) (by omega)], by rw [r2 _ (by omega) (by omega)], by rw [r2 _ (by omega) (by omega)]⟩) (fun i _ => ⟨by rw [r2 _ (by omega) (by omega)], by rw [r2 _ (by omega) (by omega)]⟩) (r1 4 (by decide)) (fun i _ _ => r1 i (by omega)) m6
    · exact WRu_tr (fun k _ => by rw [r2 _ (by omega) (by omega)]) (fun k _ i _ => ⟨by rw [r2 _ (by omega) (by omega)], by rw [r2 _ (by omega) (by omega)], by rw [r2 _ (by omega) (by omega)], by rw [r2 _ (by omega) (by omega)]⟩) (fun k _ i _ => by rw [r2 _ (by omega) (by omega)]) (fun i _ _ => r1 i (by omega)) m7
    · rw [r2 _ (by decide) (by decide)]; exact a2
    · rw [r2 _ (by decide) (by decide)]; exact a3
    · exact fun z => WRel_fr (fun a ha => WA_61 ha) (fun k _ _ => r2 k (by omega) (by omega)) (fun k _ _ => rfl) (r2 _ (by decide) (by decide)) (a4 z)
    · rw [r2 _ (by decide) (by decide), r2 _ (by decide) (by decide), r2 _ (by decide) (by decide), r2 _ (by decide) (by decide)]; exact ht
    · rw [r2 _ (by decide) (by decide), r2 _ (by decide) (by decide)]; exact hf
    · rw [r2 _ (by decide) (by decide), r2 _ (by decide) (by decide)]; exact hg
theorem b_fault {X : Nat × (Nat → Int32)} {d : Nat} {I : Nat → Nat → Int32} {J : Nat → Nat → Int64} {v : Int32} (hd : 1 ≤ d) (h : Inv I J) : Both X d 118 186 [.int v] I J := by
  obtain ⟨_, _, _, hf, hg⟩ := id h
  by_cases h0 : v = 0
  · refine Both_0 (I 124 1) h ?_ ?_
    · refine callF_at (by omega) (by decide) (Nat.le_of_ble_eq_true rfl) (fun d _ => ?_)
      show Ev X d 118 0 [.ref 0, .int v] [] ( mk I J) _
      simp (disch := first | omega | assumption | exact rfl) only [U_118_0, U_118_1, U_118_2, U_118_3, U_118_4, U_118_5, XX, QQ, WW, KK, QX, SHs, RRs, Nat.reduceAdd, Nat.reduceMul, Nat.reduceLeDiff, Nat.reduceEqDiff, List.length_cons, List.length_nil, decide_true, decide_false, Bool.true_and, Bool.and_true, Bool.false_and, Bool.and_false, false_and, and_false, Bool.false_eq_true, Bool.true_eq_false, reduceCtorEq, eq_self, if_true, if_false, true_and, and_true, not_true_eq_false, not_false_eq_true, if_pos, if_neg, z_ite_not, h0]
    · refine callF_at (by omega) (by decide) (Nat.le_of_ble_eq_true rfl) (fun d _ => ?_)
      show Ev X d 186 0 [.ref 177, .int v] [] ( mk I J) _
      simp (disch := first | omega | assumption | exact rfl) only [U_186_0, U_186_1, U_186_2, U_186_3, U_186_4, U_186_5, XX, QQ, WW, KK, QX, SHs, RRs, Nat.reduceAdd, Nat.reduceMul, Nat.reduceLeDiff, Nat.reduceEqDiff, List.length_cons, List.length_nil, decide_true, decide_false, Bool.true_and, Bool.and_true, Bool.false_and, Bool.and_false, false_and, and_false, Bool.false_eq_true, Bool.true_eq_false, reduceCtorEq, eq_self, if_true, if_false, true_and, and_true, not_true_eq_false, not_false_eq_true, if_pos, if_neg, z_ite_not, h0, hf]
  · by_cases h1 : v = nI 1
    · refine Both_0 (I 124 2) h ?_ ?_
      · refine callF_at (by omega) (by decide) (Nat.le_of_ble_eq_true rfl) (fun d _ => ?_)
        show Ev X d 118 0 [.ref 0, .int v] [] ( mk I J) _
        simp (disch := first | omega | assumption | exact rfl) only [U_118_0, U_118_1, U_118_2, U_118_3, U_118_4, U_118_5, XX, QQ, WW, KK, QX, SHs, RRs, Nat.reduceAdd, Nat.reduceMul, Nat.reduceLeDiff, Nat.reduceEqDiff, List.length_cons, List.length_nil, decide_true, decide_false, Bool.true_and, Bool.and_true, Bool.false_and, Bool.and_false, false_and, and_false, Bool.false_eq_true, Bool.true_eq_false, reduceCtorEq, eq_self, if_true, if_false, true_and, and_true, not_true_eq_false, not_false_eq_true, if_pos, if_neg, z_ite_not, h1]
      · refine callF_at (by omega) (by decide) (Nat.le_of_ble_eq_true rfl) (fun d _ => ?_)
        show Ev X d 186 0 [.ref 177, .int v] [] ( mk I J) _
        simp (disch := first | omega | assumption | exact rfl) only [U_186_0, U_186_1, U_186_2, U_186_3, U_186_4, U_186_5, XX, QQ, WW, KK, QX, SHs, RRs, Nat.reduceAdd, Nat.reduceMul, Nat.reduceLeDiff, Nat.reduceEqDiff, List.length_cons, List.length_nil, decide_true, decide_false, Bool.true_and, Bool.and_true, Bool.false_and, Bool.and_false, false_and, and_false, Bool.false_eq_true, Bool.true_eq_false, reduceCtorEq, eq_self, if_true, if_false, true_and, and_true, not_true_eq_false, not_false_eq_true, if_pos, if_neg, z_ite_not, h1, hg]
    · refine Both_0 (-1) h ?_ ?_
      · refine callF_at (by omega) (by decide) (Nat.le_of_ble_eq_true rfl) (fun d _ => ?_)
        show Ev X d 118 0 [.ref 0, .int v] [] ( mk I J) _
        simp (disch := first | omega | assumption | exact rfl) only [U_118_0, U_118_1, U_118_2, U_118_3, U_118_4, U_118_5, XX, QQ, WW, KK, QX, SHs, RRs, Nat.reduceAdd, Nat.reduceMul, Nat.reduceLeDiff, Nat.reduceEqDiff, List.length_cons, List.length_nil, decide_true, decide_false, Bool.true_and, Bool.and_true, Bool.false_and, Bool.and_false, false_and, and_false, Bool.false_eq_true, Bool.true_eq_false, reduceCtorEq, eq_self, if_true, if_false, true_and, and_true, not_true_eq_false, not_false_eq_true, if_pos, if_neg, z_ite_not, h0, h1]
      · refine callF_at (by omega) (by decide) (Nat.le_of_ble_eq_true rfl) (fun d _ => ?_)
        show Ev X d 186 0 [.ref 177, .int v] [] ( mk I J) _
        simp (disch := first | omega | assumption | exact rfl) only [U_186_0, U_186_1, U_186_2, U_186_3, U_186_4, U_186_5, XX, QQ, WW, KK, QX, SHs, RRs, Nat.reduceAdd, Nat.reduceMul, Nat.reduceLeDiff, Nat.reduceEqDiff, List.length_cons, List.length_nil, decide_true, decide_false, Bool.true_and, Bool.and_true, Bool.false_and, Bool.and_false, false_and, and_false, Bool.false_eq_true, Bool.true_eq_false, reduceCtorEq, eq_self, if_true, if_false, true_and, and_true, not_true_eq_false, not_false_eq_true, if_pos, if_neg, z_ite_not, h0, h1]
theorem b_end {X : Nat × (Nat → Int32)} {d : Nat} {I : Nat → Nat → Int32} {J : Nat → Nat → Int64} {v : Int32} (hd : 2 ≤ d) (h : Inv I J) : Both X d 116 160 [.int v] I J := by
  obtain ⟨_, _, ⟨tl, t1, t2, t3, t4⟩, hf, hg⟩ := id h
  by_cases h0 : v < 0
  · have h1 : ¬ nI 0 ≤ v := (fa_of_lt h0).2.1
    refine Both_0 (nI 0) h ?_ ?_
    · refine callF_at (by omega) (by decide) (Nat.le_of_ble_eq_true rfl) (fun d _ => ?_)
      show Ev X d 116 0 [.ref 0, .int v] [] ( mk I J) _
      simp (disch := first | omega | assumption | exact rfl) only [U_116_0, U_116_1, U_116_2, U_116_3, XX, QQ, WW, KK, QX, SHs, RRs, Nat.reduceAdd, Nat.reduceMul, Nat.reduceLeDiff, Nat.reduceEqDiff, List.length_cons, List.length_nil, decide_true, decide_false, Bool.true_and, Bool.and_true, Bool.false_and, Bool.and_false, false_and, and_false, Bool.false_eq_true, Bool.true_eq_false, reduceCtorEq, eq_self, if_true, if_false, true_and, and_true, not_true_eq_false, not_false_eq_true, if_pos, if_neg, z_ite_not, h0]
    · refine callF_at (by omega) (by decide) (Nat.le_of_ble_eq_true rfl) (fun d _ => ?_)
      show Ev X d 160 0 [.ref 177, .int v] [] ( mk I J) _
      simp (disch := first | omega | assumption | exact rfl) only [U_160_0, U_160_1, U_160_2, XX, QQ, WW, KK, QX, SHs, RRs, Nat.reduceAdd, Nat.reduceMul, Nat.reduceLeDiff, Nat.reduceEqDiff, List.length_cons, List.length_nil, decide_true, decide_false, Bool.true_and, Bool.and_true, Bool.false_and, Bool.and_false, false_and, and_false, Bool.false_eq_true, Bool.true_eq_false, reduceCtorEq, eq_self, if_true, if_false, true_and, and_true, not_true_eq_false, not_false_eq_true, if_pos, if_neg, z_ite_not, r_isIn, h1]
  · obtain ⟨n, hn, rfl⟩ := nI_of h0
    rcases Nat.lt_or_ge tl n with h1 | h1
    · refine Both_0 (nI 0) h ?_ ?_
      · refine callF_at (by omega) (by decide) (Nat.le_of_ble_eq_true rfl) (fun d _ => ?_)
        show Ev X d 116 0 [.ref 0, .int (nI n)] [] ( mk I J) _
        simp (disch := first | omega | assumption | exact rfl) only [U_116_0, U_116_1, U_116_2, U_116_3, XX, QQ, WW, KK, QX, SHs, RRs, Nat.reduceAdd, Nat.reduceMul, Nat.reduceLeDiff, Nat.reduceEqDiff, List.length_cons, List.length_nil, decide_true, decide_false, Bool.true_and, Bool.and_true, Bool.false_and, Bool.and_false, false_and, and_false, Bool.false_eq_true, Bool.true_eq_false, reduceCtorEq, eq_self, if_true, if_false, true_and, and_true, not_true_eq_false, not_false_eq_true, if_pos, if_neg, z_ite_not, t2]
      · refine callF_at (by omega) (by decide) (Nat.le_of_ble_eq_true rfl) (fun d _ => ?_)
        show Ev X d 160 0 [.ref 177, .int (nI n)] [] ( mk I J) _
        simp (disch := first | omega | assumption | exact rfl) only [U_160_0, U_160_1, U_160_2, XX, QQ, WW, KK, QX, SHs, RRs, Nat.reduceAdd, Nat.reduceMul, Nat.reduceLeDiff, Nat.reduceEqDiff, List.length_cons, List.length_nil, decide_true, decide_false, Bool.true_and, Bool.and_true, Bool.false_and, Bool.and_false, false_and, and_false, Bool.false_eq_true, Bool.true_eq_false, reduceCtorEq, eq_self, if_true, if_false, true_and, and_true, not_true_eq_false, not_false_eq_true, if_pos, if_neg, z_ite_not, r_isIn, t3]
    · refine ⟨nI 1, va_up I 0 (va_up (I 0) 4 (nI n)), J, va_up (va_up I 0 (va_up (I 0) 4 (nI n))) 177 (va_up (I 177) 12 (nI n)), ?_, ?_, ?_⟩
      · refine callF_at (by omega) (by decide) (Nat.le_of_ble_eq_true rfl) (fun d _ => ?_)
        show Ev X d 116 0 [.ref 0, .int (nI n)] [] ( mk I J) _
        simp (disch := first | omega | assumption | exact rfl) only [U_116_0, U_116_1, U_116_2, U_116_3, XX, QQ, WW, KK, QX, SHs, RRs, Nat.reduceAdd, Nat.reduceMul, Nat.reduceLeDiff, Nat.reduceEqDiff, List.length_cons, List.length_nil, decide_true, decide_false, Bool.true_and, Bool.and_true, Bool.false_and, Bool.and_false, false_and, and_false, Bool.false_eq_true, Bool.true_eq_false, reduceCtorEq, eq_self, if_true, if_false, true_and, and_true, not_true_eq_false, not_false_eq_true, if_pos, if_neg, z_ite_not, t2]
      · refine callF_at (by omega) (by decide) (Nat.le_of_ble_eq_true rfl) (fun d _ => ?_)
        show Ev X d 160 0 [.ref 177, .int (nI n)] [] ( mk (va_up I 0 (va_up (I 0) 4 (nI n))) J) _
        simp (disch := first | omega | assumption | exact rfl) only [U_160_0, U_160_1, U_160_2, XX, QQ, WW, KK, QX, SHs, RRs, Nat.reduceAdd, Nat.reduceMul, Nat.reduceLeDiff, Nat.reduceEqDiff, List.length_cons, List.length_nil, decide_true, decide_false, Bool.true_and, Bool.and_true, Bool.false_and, Bool.and_false, false_and, and_false, Bool.false_eq_true, Bool.true_eq_false, reduceCtorEq, eq_self, if_true, if_false, true_and, and_true, not_true_eq_false, not_false_eq_true, if_pos, if_neg, z_ite_not, r_isIn, t3]
      · have r2 : ∀ k, k ≠ 0 → k ≠ 177 → va_up (va_up I 0 (va_up (I 0) 4 (nI n))) 177 (va_up (I 177) 12 (nI n)) k = I k := fun k h1 h2 => by rw [vu_ne h2, vu_ne h1]
        have r1 : ∀ k, k ≠ 12 → va_up (va_up I 0 (va_up (I 0) 4 (nI n))) 177 (va_up (I 177) 12 (nI n)) 177 k = I 177 k := fun k h1 => by rw [vu_eq, vu_ne h1]
        refine Inv_w h (fun a _ _ => r2 a (by omega) (by omega)) (fun a _ _ => rfl) (r2 _ (by decide) (by decide)) (r2 _ (by decide) (by decide)) ?_ (r1 2 (by decide)) ⟨n, by omega, ?_, ?_, fun i hi => ?_⟩ ?_ ?_
        · rw [vu_ne (by decide), vu_eq, vu_ne (by decide)]
        · rw [vu_ne (by decide), vu_eq, vu_eq]
        · rw [vu_eq, vu_eq]
        · rw [r2 _ (by decide) (by decide), r2 _ (by decide) (by decide)]; exact t4 i (by omega)
        · rw [r2 _ (by decide) (by decide), r1 _ (by decide)]; exact hf
        · rw [r2 _ (by decide) (by decide), r1 _ (by decide)]; exact hg
/-- the j-th byte of an int, from above -/
def byt (v : Int32) (j : Nat) : Int32 := (v.toUInt32 >>> ((nI (24 - 8 * j)).toUInt32 &&& Int32.toUInt32 31)).toInt32 &&& nI 255
theorem byt_s {v : Int32} {j : Nat} (hj : j < 4) : v >>> (nI (24 - 8 * j) &&& 31) &&& nI 255 = byt v j := by
  apply b_ext
  intro i hi
  unfold byt
  rw [b_and, b_and, b_sshr _ (by omega) _ hi, b_ushr _ (by omega)]
  have : bt (nI 255) i = decide (i < 8) := b_255 i
  rw [this]
  by_cases h : i < 8
  · rw [if_pos (by omega)]
  · simp [h]
theorem byt_r (v : Int32) (j : Nat) : ∃ c, c < 256 ∧ byt v j = nI c := by
  unfold byt
  obtain ⟨n, hn, e⟩ := wb_of32 ((v.toUInt32 >>> ((nI (24 - 8 * j)).toUInt32 &&& Int32.toUInt32 31)).toInt32)
  rw [e, fa_and]
  exact ⟨n &&& 255, Nat.lt_of_le_of_lt Nat.and_le_right (by decide), rfl⟩
theorem c_feedN {X : Nat × (Nat → Int32)} {d : Nat} {I : Nat → Nat → Int32} {J : Nat → Nat → Int64} {v : Int32} {tl : Nat} (hd : 1 ≤ d) (ht : I 0 4 = nI tl) (h4 : tl + 4 ≤ 400) : ∃ I', callF X d 115 [.ref 0, .int v] (mk I J) = some (none, mk I' J) ∧ I' 0 = va_up (I 0) 4 (nI (tl + 4)) ∧ (∀ i, I' 123 i = if tl ≤ i ∧ i < tl + 4 then byt v (i - tl) else I 123 i) ∧ ∀ a, a ≠ 0 → a ≠ 123 → I' a = I a := by
  have hneg : (nI 0 - nI 8 : Int32) < 0 := by decide +kernel
  have b0 := show (v.toUInt32 >>> ((nI 24).toUInt32 &&& Int32.toUInt32 31)).toInt32 &&& nI 255 = byt v 0 from rfl
  have b1 := show (v.toUInt32 >>> ((nI 16).toUInt32 &&& Int32.toUInt32 31)).toInt32 &&& nI 255 = byt v 1 from rfl
  have b2 := show (v.toUInt32 >>> ((nI 8).toUInt32 &&& Int32.toUInt32 31)).toInt32 &&& nI 255 = byt v 2 from rfl
  have b3 := show (v.toUInt32 >>> ((nI 0).toUInt32 &&& Int32.toUInt32 31)).toInt32 &&& nI 255 = byt v 3 from rfl
  have e1 : nI 24 - nI 8 = nI 16 := by decide +kernel
  have e2 : nI 16 - nI 8 = nI 8 := by decide +kernel
  have e3 : nI 8 - nI 8 = nI 0 := by decide +kernel
  refine ⟨va_up (va_up I 123 (va_up (va_up (va_up (va_up (I 123) tl (byt v 0)) (tl + 1) (byt v 1)) (tl + 2) (byt v 2)) (tl + 3) (byt v 3))) 0 (va_up (I 0) 4 (nI (tl + 4))), ?_, ?_, ?_, ?_⟩
  · refine callF_at (by omega) (by decide) (Nat.le_of_ble_eq_true rfl) (fun d _ => ?_)
    show Ev X d 115 0 [.ref 0, .int v, .retAddr 0] [] ( mk I J) _
    simp (disch := first | omega | assumption) only [U_115_0, U_115_1, U_115_2, U_115_3, U_115_4, XX, q_lt0, q_le, q_inb, q_cl, q_add, e1, e2, e3, WW, KK, SHs, RRs, Nat.reduceAdd, eq_self, if_true, if_false, true_and, and_true, Nat.reduceLeDiff, List.length_cons, List.length_nil, ht, b0, b1, b2, b3, hneg, vu_4, if_pos, if_neg, Nat.add_assoc, not_true_eq_false]
  · rw [vu_eq]
  · intro i
    rw [vu_ne (by decide), vu_eq]
    by_cases z3 : i = tl + 3
    · rw [z3, vu_eq, if_pos (by omega), show tl + 3 - tl = 3 by omega]
    rw [vu_ne z3]
    by_cases z2 : i = tl + 2
    · rw [z2, vu_eq, if_pos (by omega), show tl + 2 - tl = 2 by omega]
    rw [vu_ne z2]
    by_cases z1 : i = tl + 1
    · rw [z1, vu_eq, if_pos (by omega), show tl + 1 - tl = 1 by omega]
    rw [vu_ne z1]
    by_cases z0 : i = tl
    · rw [z0, vu_eq, if_pos (by omega), show tl - tl = 0 by omega]
    rw [vu_ne z0, if_neg (by omega)]
  · intro a h1 h2
    rw [vu_ne h1, vu_ne h2]
def bf5 (a b c d e : Int32) (k : Nat) : Int32 := byt (if k < 4 then a else if k < 8 then b else if k < 12 then c else if k < 16 then d else e) (k % 4)
theorem b_feed {X : Nat × (Nat → Int32)} {d : Nat} {I : Nat → Nat → Int32} {J : Nat → Nat → Int64} {a b c e f : Int32} (hd : 2 ≤ d) (h : Inv I J) : Both X d 114 159 [.int a, .int b, .int c, .int e, .int f] I J := by
  obtain ⟨_, _, ⟨tl, t1, t2, t3, t4⟩, hf, hg⟩ := id h
  rcases Nat.lt_or_ge 380 tl with h1 | h1
  · refine Both_0 (-1) h ?_ ?_
    · refine callF_at (by omega) (by decide) (Nat.le_of_ble_eq_true rfl) (fun d _ => ?_)
      show Ev X d 114 0 [.ref 0, .int a, .int b, .int c, .int e, .int f] [] ( mk I J) _
      simp (disch := first | omega | assumption | exact rfl) only [U_114_0, U_114_1, XX, QQ, WW, KK, QX, SHs, RRs, Nat.reduceAdd, Nat.reduceMul, Nat.reduceLeDiff, Nat.reduceEqDiff, List.length_cons, List.length_nil, decide_true, decide_false, Bool.true_and, Bool.and_true, Bool.false_and, Bool.and_false, false_and, and_false, Bool.false_eq_true, Bool.true_eq_false, reduceCtorEq, eq_self, if_true, if_false, true_and, and_true, not_true_eq_false, not_false_eq_true, if_pos, if_neg, z_ite_not, t2]
    · refine callF_at (by omega) (by decide) (Nat.le_of_ble_eq_true rfl) (fun d _ => ?_)
      show Ev X d 159 0 [.ref 177, .int a, .int b, .int c, .int e, .int f, .retAddr 0, .retAddr 0] [] ( mk I J) _
      simp (disch := first | omega | assumption | exact rfl) only [U_159_0, U_159_1, XX, QQ, WW, KK, QX, SHs, RRs, Nat.reduceAdd, Nat.reduceMul, Nat.reduceLeDiff, Nat.reduceEqDiff, List.length_cons, List.length_nil, decide_true, decide_false, Bool.true_and, Bool.and_true, Bool.false_and, Bool.and_false, false_and, and_false, Bool.false_eq_true, Bool.true_eq_false, reduceCtorEq, eq_self, if_true, if_false, true_and, and_true, not_true_eq_false, not_false_eq_true, if_pos, if_neg, z_ite_not, t3]
  · obtain ⟨d, rfl⟩ : ∃ d', d = d' + 1 := ⟨d - 1, by omega⟩
    obtain ⟨I1, c1, p1, q1, r1⟩ := c_feedN (X := X) (d := d) (J := J) (v := a) (by omega) t2 (by omega)
    obtain ⟨I2, c2, p2, q2, r2⟩ := c_feedN (X := X) (d := d) (J := J) (I := I1) (v := b) (tl := tl + 4) (by omega) (by rw [p1, vu_eq]) (by omega)
    obtain ⟨I3, c3, p3, q3, r3⟩ := c_feedN (X := X) (d := d) (J := J) (I := I2) (v := c) (tl := tl + 4 + 4) (by omega) (by rw [p2, vu_eq]) (by omega)
    obtain ⟨I4, c4, p4, q4, r4⟩ := c_feedN (X := X) (d := d) (J := J) (I := I3) (v := e) (tl := tl + 4 + 4 + 4) (by omega) (by rw [p3, vu_eq]) (by omega)
    obtain ⟨I5, c5, p5, q5, r5⟩ := c_feedN (X := X) (d := d) (J := J) (I := I4) (v := f) (tl := tl + 4 + 4 + 4 + 4) (by omega) (by rw [p4, vu_eq]) (by omega)
    have hk : ∀ k, k ≠ 0 → k ≠ 123 → I5 k = I k := fun k h1 h2 => by rw [r5 k h1 h2, r4 k h1 h2, r3 k h1 h2, r2 k h1 h2, r1 k h1 h2]
    have h04 : I5 0 4 = nI (tl + 20) := by rw [p5, vu_eq]
    have h0 : ∀ k, k ≠ 4 → I5 0 k = I 0 k := fun k hk => by rw [p5, vu_ne hk, p4, vu_ne hk, p3, vu_ne hk, p2, vu_ne hk, p1, vu_ne hk]
    have hb : ∀ i, I5 123 i = if tl ≤ i ∧ i < tl + 20 then bf5 a b c e f (i - tl) else I 123 i := by
      intro i
      rw [q5, q4, q3, q2, q1]
      unfold bf5
      by_cases z : tl ≤ i ∧ i < tl + 20
      · rw [if_pos z]
        by_cases y5 : tl + 16 ≤ i
        · rw [if_pos (by omega), if_neg (by omega), if_neg (by omega), if_neg (by omega), if_neg (by omega)]; congr 1; omega
        rw [if_neg (by omega)]
        by_cases y4 : tl + 12 ≤ i
        · rw [if_pos (by omega), if_neg (by omega), if_neg (by omega), if_neg (by omega), if_pos (by omega)]; congr 1; omega
        rw [if_neg (by omega)]
        by_cases y3 : tl + 8 ≤ i
        · rw [if_pos (by omega), if_neg (by omega), if_neg (by omega), if_pos (by omega)]; congr 1; omega
        rw [if_neg (by omega)]
        by_cases y2 : tl + 4 ≤ i
        · rw [if_pos (by omega), if_neg (by omega), if_pos (by omega)]; congr 1; omega
        rw [if_neg (by omega), if_pos (by omega), if_pos (by omega)]; congr 1; omega
      · rw [if_neg z, if_neg (by omega), if_neg (by omega), if_neg (by omega), if_neg (by omega), if_neg (by omega)]
    have t3' : I5 177 12 = nI tl := by rw [hk _ (by decide) (by decide)]; exact t3
    refine ⟨nI (tl + 20), I5, J, va_up (va_up I5 182 (fun i => if tl ≤ i ∧ i < tl + 20 then bf5 a b c e f (i - tl) else I5 182 i)) 177 (va_up (I5 177) 12 (nI (tl + 20))), ?_, ?_, ?_⟩
    · refine callF_at (by omega) (by decide) (Nat.le_of_ble_eq_true rfl) (fun d' hd' => ?_)
      obtain rfl : d = d' := by omega
      show Ev X d 114 0 [.ref 0, .int a, .int b, .int c, .int e, .int f] [] (mk I J) _
      simp (disch := first | omega | assumption | exact rfl) only [U_114_0, U_114_2, XX, QQ, WW, KK, QX, SHs, RRs, Nat.reduceAdd, Nat.reduceMul, Nat.reduceLeDiff, Nat.reduceEqDiff, List.length_cons, List.length_nil, decide_true, decide_false, Bool.true_and, Bool.and_true, Bool.false_and, Bool.and_false, false_and, and_false, Bool.false_eq_true, Bool.true_eq_false, reduceCtorEq, eq_self, if_true, if_false, true_and, and_true, not_true_eq_false, not_false_eq_true, if_pos, if_neg, z_ite_not, t2, c1, c2, c3, c4, c5, h04]
    · refine callF_at (by omega) (by decide) (Nat.le_of_ble_eq_true rfl) (fun d _ => ?_)
      show Ev X d 159 0 [.ref 177, .int a, .int b, .int c, .int e, .int f, .retAddr 0, .retAddr 0] [] ( mk I5 J) _
      simp (disch := first | omega | assumption | exact rfl) only [U_159_0, U_159_2, XX, QQ, WW, KK, QX, SHs, RRs, Nat.reduceAdd, Nat.reduceMul, Nat.reduceLeDiff, Nat.reduceEqDiff, List.length_cons, List.length_nil, decide_true, decide_false, Bool.true_and, Bool.and_true, Bool.false_and, Bool.and_false, false_and, and_false, Bool.false_eq_true, Bool.true_eq_false, reduceCtorEq, eq_self, if_true, if_false, true_and, and_true, not_true_eq_false, not_false_eq_true, if_pos, if_neg, z_ite_not, t3']
      refine lpI (n := 20) (P := fun k => ∀ u : Value, Ev X d 159 3 [.ref 177, .int a, .int b, .int c, .int e, .int f, .int (nI k), u] [] (mk (va_up (va_up I5 182 (fun i => if tl ≤ i ∧ i < tl + k then bf5 a b c e f (i - tl) else I5 182 i)) 177 (va_up (I5 177) 12 (nI (tl + k)))) J) (some (.int (nI (tl + 20))), mk (va_up (va_up I5 182 (fun i => if tl ≤ i ∧ i < tl + 20 then bf5 a b c e f (i - tl) else I5 182 i)) 177 (va_up (I5 177) 12 (nI (tl + 20)))) J)) ?_ ?_ (fun L => ?_)
      · intro u
        rw [U_159_3]
        simp (disch := first | omega | assumption | exact rfl) only [U_159_14, XX, QQ, WW, KK, QX, SHs, RRs, Nat.reduceAdd, Nat.reduceMul, Nat.reduceLeDiff, Nat.reduceEqDiff, List.length_cons, List.length_nil, decide_true, decide_false, Bool.true_and, Bool.and_true, Bool.false_and, Bool.and_false, false_and, and_false, Bool.false_eq_true, Bool.true_eq_false, reduceCtorEq, eq_self, if_true, if_false, true_and, and_true, not_true_eq_false, not_false_eq_true, if_pos, if_neg, z_ite_not]
      · intro k hk' ih u
        rw [U_159_3]
        have em : k - k / 4 * 4 = k % 4 := by omega
        have ek : 24 - 8 * (k % 4) + 8 * (k % 4) = 24 := by omega
        have eu : va_up (fun i => if tl ≤ i ∧ i < tl + k then bf5 a b c e f (i - tl) else I5 182 i) (tl + k) (bf5 a b c e f k) = fun i => if tl ≤ i ∧ i < tl + (k + 1) then bf5 a b c e f (i - tl) else I5 182 i := by
          funext i; unfold va_up
          by_cases z : i = tl + k
          · rw [if_pos z, if_pos (by omega), z, show tl + k - tl = k by omega]
          · rw [if_neg z]
            show (if tl ≤ i ∧ i < tl + k then bf5 a b c e f (i - tl) else I5 182 i) = _
            by_cases z2 : tl ≤ i ∧ i < tl + k
            · rw [if_pos z2, if_pos (by omega)]
            · rw [if_neg z2, if_neg (by omega)]
        rw [← eu] at ih
        have bs4 := fun v => byt_s (v := v) (j := k % 4) (by omega)
        unfold bf5 at ih
        by_cases y1 : k < 4
        · rw [if_pos y1] at ih
          simp (disch := first | omega | assumption | exact rfl) only [U_159_4, U_159_5, U_159_6, U_159_7, U_159_8, U_159_9, U_159_10, U_159_11, U_159_12, U_159_13, XX, QQ, WW, KK, QX, SHs, RRs, Nat.reduceAdd, Nat.reduceMul, Nat.reduceLeDiff, Nat.reduceEqDiff, List.length_cons, List.length_nil, decide_true, decide_false, Bool.true_and, Bool.and_true, Bool.false_and, Bool.and_false, false_and, and_false, Bool.false_eq_true, Bool.true_eq_false, reduceCtorEq, eq_self, if_true, if_false, true_and, and_true, not_true_eq_false, not_false_eq_true, if_pos, if_neg, z_ite_not, q_div, em, bs4, vu_4, Nat.add_assoc]
          exact ih _
        · rw [if_neg y1] at ih
          by_cases y2 : k < 8
          · rw [if_pos y2] at ih
            simp (disch := first | omega | assumption | exact rfl) only [U_159_4, U_159_5, U_159_6, U_159_7, U_159_8, U_159_9, U_159_10, U_159_11, U_159_12, U_159_13, XX, QQ, WW, KK, QX, SHs, RRs, Nat.reduceAdd, Nat.reduceMul, Nat.reduceLeDiff, Nat.reduceEqDiff, List.length_cons, List.length_nil, decide_true, decide_false, Bool.true_and, Bool.and_true, Bool.false_and, Bool.and_false, false_and, and_false, Bool.false_eq_true, Bool.true_eq_false, reduceCtorEq, eq_self, if_true, if_false, true_and, and_true, not_true_eq_false, not_false_eq_true, if_pos, if_neg, z_ite_not, q_div, em, bs4, vu_4, Nat.add_assoc]
            exact ih _
          · rw [if_neg y2] at ih
            by_cases y3 : k < 12
            · rw [if_pos y3] at ih
              simp (disch := first | omega | assumption | exact rfl) only [U_159_4, U_159_5, U_159_6, U_159_7, U_159_8, U_159_9, U_159_10, U_159_11, U_159_12, U_159_13, XX, QQ, WW, KK, QX, SHs, RRs, Nat.reduceAdd, Nat.reduceMul, Nat.reduceLeDiff, Nat.reduceEqDiff, List.length_cons, List.length_nil, decide_true, decide_false, Bool.true_and, Bool.and_true, Bool.false_and, Bool.and_false, false_and, and_false, Bool.false_eq_true, Bool.true_eq_false, reduceCtorEq, eq_self, if_true, if_false, true_and, and_true, not_true_eq_false, not_false_eq_true, if_pos, if_neg, z_ite_not, q_div, em, bs4, vu_4, Nat.add_assoc]
              exact ih _
            · rw [if_neg y3] at ih
              by_cases y4 : k < 16
              · rw [if_pos y4] at ih
                simp (disch := first | omega | assumption | exact rfl) only [U_159_4, U_159_5, U_159_6, U_159_7, U_159_8, U_159_9, U_159_10, U_159_11, U_159_12, U_159_13, XX, QQ, WW, KK, QX, SHs, RRs, Nat.reduceAdd, Nat.reduceMul, Nat.reduceLeDiff, Nat.reduceEqDiff, List.length_cons, List.length_nil, decide_true, decide_false, Bool.true_and, Bool.and_true, Bool.false_and, Bool.and_false, false_and, and_false, Bool.false_eq_true, Bool.true_eq_false, reduceCtorEq, eq_self, if_true, if_false, true_and, and_true, not_true_eq_false, not_false_eq_true, if_pos, if_neg, z_ite_not, q_div, em, bs4, vu_4, Nat.add_assoc]
                exact ih _
              · rw [if_neg y4] at ih
                simp (disch := first | omega | assumption | exact rfl) only [U_159_4, U_159_5, U_159_6, U_159_7, U_159_8, U_159_9, U_159_10, U_159_11, U_159_12, U_159_13, XX, QQ, WW, KK, QX, SHs, RRs, Nat.reduceAdd, Nat.reduceMul, Nat.reduceLeDiff, Nat.reduceEqDiff, List.length_cons, List.length_nil, decide_true, decide_false, Bool.true_and, Bool.and_true, Bool.false_and, Bool.and_false, false_and, and_false, Bool.false_eq_true, Bool.true_eq_false, reduceCtorEq, eq_self, if_true, if_false, true_and, and_true, not_true_eq_false, not_false_eq_true, if_pos, if_neg, z_ite_not, q_div, em, bs4, vu_4, Nat.add_assoc]
                exact ih _
      · have e1 : (fun i => if tl ≤ i ∧ i < tl + 0 then bf5 a b c e f (i - tl) else I5 182 i) = I5 182 := by funext i; rw [if_neg (by omega)]
        have e2 : va_up (I5 177) 12 (nI (tl + 0)) = I5 177 := by rw [Nat.add_zero, ← t3']; exact vu_id
        rw [e1, e2, vu_id, vu_id] at L
        exact L _
    · have w2 : ∀ k, k ≠ 182 → k ≠ 177 → va_up (va_up I5 182 (fun i => if tl ≤ i ∧ i < tl + 20 then bf5 a b c e f (i - tl) else I5 182 i)) 177 (va_up (I5 177) 12 (nI (tl + 20))) k = I5 k := fun k h1 h2 => by rw [vu_ne h2, vu_ne h1]
      have w1 : ∀ k, k ≠ 12 → va_up (va_up I5 182 (fun i => if tl ≤ i ∧ i < tl + 20 then bf5 a b c e f (i - tl) else I5 182 i)) 177 (va_up (I5 177) 12 (nI (tl + 20))) 177 k = I 177 k := fun k h1 => by rw [vu_eq, vu_ne h1, hk _ (by decide) (by decide)]
      refine Inv_w h (fun a _ _ => by rw [w2 a (by omega) (by omega), hk a (by omega) (by omega)]) (fun a _ _ => rfl) (by rw [w2 _ (by decide) (by decide), hk _ (by decide) (by decide)]) (by rw [w2 _ (by decide) (by decide), hk _ (by decide) (by decide)]) (by rw [w2 _ (by decide) (by decide), h0 _ (by decide)]) (w1 2 (by decide)) ⟨tl + 20, by omega, ?_, ?_, fun i hi => ?_⟩ ?_ ?_
      · rw [w2 _ (by decide) (by decide)]; exact h04
      · rw [vu_eq, vu_eq]
      · rw [w2 _ (by decide) (by decide), hb, vu_ne (by decide), vu_eq]
        by_cases z : tl ≤ i
        · obtain ⟨n, hn, e⟩ := byt_r (if i - tl < 4 then a else if i - tl < 8 then b else if i - tl < 12 then c else if i - tl < 16 then e else f) ((i - tl) % 4)
          refine ⟨n, hn, ?_, ?_⟩
          · rw [if_pos (by omega)]; exact e
          · rw [if_pos (by omega)]; exact e
        · obtain ⟨n, hn, e1, e2⟩ := t4 i (by omega)
          refine ⟨n, hn, ?_, ?_⟩
          · rw [if_neg (by omega)]; exact e1
          · rw [if_neg (by omega), hk _ (by decide) (by decide)]; exact e2
      · rw [w2 _ (by decide) (by decide), hk _ (by decide) (by decide), w1 _ (by decide)]; exact hf
      · rw [w2 _ (by decide) (by decide), hk _ (by decide) (by decide), w1 _ (by decide)]; exact hg
