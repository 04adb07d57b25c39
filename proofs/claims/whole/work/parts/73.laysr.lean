/-! ===== layings: the reference ===== -/
theorem r_empties {X : Nat × (Nat → Int32)} {d : Nat} {I : Nat → Nat → Int32} {J : Nat → Nat → Int64} (hd : 1 ≤ d) : callF X d 217 [.ref 177] (mk I J) = some (none, mk (va_up I 188 (fillI 24 (-1) (I 188))) J) := by
  refine callF_at (by omega) (by decide) (Nat.le_of_ble_eq_true rfl) (fun d _ => ?_)
  show Ev X d 217 0 [.ref 177, .retAddr 0] [] ( mk I J) _
  simp (disch := first | omega | assumption | exact rfl) only [U_217_0, XX, QQ, WW, KK, QX, SHs, RRs, Nat.reduceAdd, Nat.reduceMul, Nat.reduceLeDiff, Nat.reduceEqDiff, List.length_cons, List.length_nil, decide_true, decide_false, Bool.true_and, Bool.and_true, Bool.false_and, Bool.and_false, false_and, and_false, Bool.false_eq_true, Bool.true_eq_false, reduceCtorEq, eq_self, if_true, if_false, true_and, and_true, not_true_eq_false, not_false_eq_true, if_pos, if_neg, z_ite_not, false_or, or_false, true_or, or_true, SWs, swk_0, swk_1]
  refine lpI (n := 24) (P := fun b => Ev X d 217 1 [.ref 177, .int (nI b)] [] (mk (va_up I 188 (fillI b (-1) (I 188))) J) (none, mk (va_up I 188 (fillI 24 (-1) (I 188))) J)) ?_ ?_ (fun L => by rw [fillI_0, vu_id] at L; exact L)
  · rw [U_217_1]
    simp (disch := first | omega | assumption | exact rfl) only [U_217_3, XX, QQ, WW, KK, QX, SHs, RRs, Nat.reduceAdd, Nat.reduceMul, Nat.reduceLeDiff, Nat.reduceEqDiff, List.length_cons, List.length_nil, decide_true, decide_false, Bool.true_and, Bool.and_true, Bool.false_and, Bool.and_false, false_and, and_false, Bool.false_eq_true, Bool.true_eq_false, reduceCtorEq, eq_self, if_true, if_false, true_and, and_true, not_true_eq_false, not_false_eq_true, if_pos, if_neg, z_ite_not, false_or, or_false, true_or, or_true, SWs, swk_0, swk_1]
  · intro b hb ih
    rw [U_217_1]
    rw [← fillI_s] at ih
    simp (disch := first | omega | assumption | exact rfl) only [U_217_2, XX, QQ, WW, KK, QX, SHs, RRs, Nat.reduceAdd, Nat.reduceMul, Nat.reduceLeDiff, Nat.reduceEqDiff, List.length_cons, List.length_nil, decide_true, decide_false, Bool.true_and, Bool.and_true, Bool.false_and, Bool.and_false, false_and, and_false, Bool.false_eq_true, Bool.true_eq_false, reduceCtorEq, eq_self, if_true, if_false, true_and, and_true, not_true_eq_false, not_false_eq_true, if_pos, if_neg, z_ite_not, false_or, or_false, true_or, or_true, SWs, swk_0, swk_1]
    exact ih
theorem r_laysTried {X : Nat × (Nat → Int32)} {d : Nat} {I : Nat → Nat → Int32} {J : Nat → Nat → Int64} {a F : Nat} {B : Nat → Int32} (hd : 3 ≤ d) (ha : a < 6) (hR : RSh (I 178) a F) (hB : WB B (pop F)) (hT : I 188 = B) : callF X d 206 [.ref 177, .int (nI a), .ref 187] (mk I J) = some (some (.int (nI (ins F B))), mk (va_up I 187 (gN F B (I 187) (pop F))) J) := by
  have hR0 := hR
  obtain ⟨h24, h1, h2⟩ := hR
  refine callF_at (by omega) (by decide) (Nat.le_of_ble_eq_true rfl) (fun d _ => ?_)
  show Ev X d 206 0 [.ref 177, .int (nI a), .ref 187, .retAddr 0, .retAddr 0, .retAddr 0] [] ( mk I J) _
  simp (disch := first | omega | assumption | exact rfl) only [U_206_0, XX, QQ, WW, KK, QX, SHs, RRs, Nat.reduceAdd, Nat.reduceMul, Nat.reduceLeDiff, Nat.reduceEqDiff, List.length_cons, List.length_nil, decide_true, decide_false, Bool.true_and, Bool.and_true, Bool.false_and, Bool.and_false, false_and, and_false, Bool.false_eq_true, Bool.true_eq_false, reduceCtorEq, eq_self, if_true, if_false, true_and, and_true, not_true_eq_false, not_false_eq_true, if_pos, if_neg, z_ite_not, false_or, or_false, true_or, or_true, SWs, swk_0, swk_1]
  refine lpI (n := 24) (P := fun b => Ev X d 206 1 [.ref 177, .int (nI a), .ref 187, .int (nI 0), .int (nI b), .retAddr 0] [] (mk (va_up I 187 (fillI b (nI 0) (I 187))) J) (some (.int (nI (ins F B))), mk (va_up I 187 (gN F B (I 187) (pop F))) J)) ?_ ?_ (fun L => by rw [fillI_0, vu_id] at L; exact L)
  · rw [U_206_1]
    simp (disch := first | omega | assumption | exact rfl) only [U_206_3, XX, QQ, WW, KK, QX, SHs, RRs, Nat.reduceAdd, Nat.reduceMul, Nat.reduceLeDiff, Nat.reduceEqDiff, List.length_cons, List.length_nil, decide_true, decide_false, Bool.true_and, Bool.and_true, Bool.false_and, Bool.and_false, false_and, and_false, Bool.false_eq_true, Bool.true_eq_false, reduceCtorEq, eq_self, if_true, if_false, true_and, and_true, not_true_eq_false, not_false_eq_true, if_pos, if_neg, z_ite_not, false_or, or_false, true_or, or_true, SWs, swk_0, swk_1]
    refine lpI (n := pop F) (P := fun i => ∀ u : Value, Ev X d 206 4 [.ref 177, .int (nI a), .ref 187, .int (nI (inP B i)), .int (nI i), u] [] (mk (va_up I 187 (gN F B (I 187) i)) J) (some (.int (nI (ins F B))), mk (va_up I 187 (gN F B (I 187) (pop F))) J)) ?_ ?_ (fun L => by
      have e : inP B 0 = 0 := bs_0 (fun c _ => by rintro ⟨i, h, _⟩; omega)
      rw [e, gN_0] at L; exact L _)
    · intro u
      rw [U_206_4]
      simp (disch := first | omega | assumption | exact rfl) only [U_206_14, XX, QQ, WW, KK, QX, SHs, RRs, Nat.reduceAdd, Nat.reduceMul, Nat.reduceLeDiff, Nat.reduceEqDiff, List.length_cons, List.length_nil, decide_true, decide_false, Bool.true_and, Bool.and_true, Bool.false_and, Bool.and_false, false_and, and_false, Bool.false_eq_true, Bool.true_eq_false, reduceCtorEq, eq_self, if_true, if_false, true_and, and_true, not_true_eq_false, not_false_eq_true, if_pos, if_neg, z_ite_not, false_or, or_false, true_or, or_true, SWs, swk_0, swk_1, h1]
      rfl
    · intro i hi ih u
      rw [U_206_4]
      rcases hB.1 i hi with z | ⟨b, hb, z⟩
      · rw [inP_s z, gN_n z] at ih
        simp (disch := first | omega | assumption | exact rfl) only [U_206_5, U_206_6, U_206_13, XX, QQ, WW, KK, QX, SHs, RRs, Nat.reduceAdd, Nat.reduceMul, Nat.reduceLeDiff, Nat.reduceEqDiff, List.length_cons, List.length_nil, decide_true, decide_false, Bool.true_and, Bool.and_true, Bool.false_and, Bool.and_false, false_and, and_false, Bool.false_eq_true, Bool.true_eq_false, reduceCtorEq, eq_self, if_true, if_false, true_and, and_true, not_true_eq_false, not_false_eq_true, if_pos, if_neg, z_ite_not, false_or, or_false, true_or, or_true, SWs, swk_0, swk_1, h1, hT, z]
        exact ih _
      · rw [inP_i hb z, ← gN_s hB hi hb z] at ih
        simp (disch := first | omega | assumption | exact rfl) only [U_206_5, U_206_7, XX, QQ, WW, KK, QX, SHs, RRs, Nat.reduceAdd, Nat.reduceMul, Nat.reduceLeDiff, Nat.reduceEqDiff, List.length_cons, List.length_nil, decide_true, decide_false, Bool.true_and, Bool.and_true, Bool.false_and, Bool.and_false, false_and, and_false, Bool.false_eq_true, Bool.true_eq_false, reduceCtorEq, eq_self, if_true, if_false, true_and, and_true, not_true_eq_false, not_false_eq_true, if_pos, if_neg, z_ite_not, false_or, or_false, true_or, or_true, SWs, swk_0, swk_1, h1, hT, z, fa_or]
        refine lpI (n := pop F) (P := fun j => Ev X d 206 8 [.ref 177, .int (nI a), .ref 187, .int (nI (inP B i ||| 2 ^ b)), .int (nI i), .int (nI j)] [] (mk (va_up I 187 (va_up (gN F B (I 187) i) b (nI (rowP F B i j)))) J) (some (.int (nI (ins F B))), mk (va_up I 187 (gN F B (I 187) (pop F))) J)) ?_ ?_ (fun L => by
          have e0 := gN_b0 (g := I 187) hB hi hb z
          have e1 : va_up (gN F B (I 187) i) b (nI 0) = gN F B (I 187) i := by rw [← e0]; exact vu_id
          rw [rowP_0, e1] at L; exact L)
        · rw [U_206_8]
          simp (disch := first | omega | assumption | exact rfl) only [U_206_13, XX, QQ, WW, KK, QX, SHs, RRs, Nat.reduceAdd, Nat.reduceMul, Nat.reduceLeDiff, Nat.reduceEqDiff, List.length_cons, List.length_nil, decide_true, decide_false, Bool.true_and, Bool.and_true, Bool.false_and, Bool.and_false, false_and, and_false, Bool.false_eq_true, Bool.true_eq_false, reduceCtorEq, eq_self, if_true, if_false, true_and, and_true, not_true_eq_false, not_false_eq_true, if_pos, if_neg, z_ite_not, false_or, or_false, true_or, or_true, SWs, swk_0, swk_1, h1]
          exact ih _
        · intro j hj ihj
          rw [U_206_8]
          have hR1 : RSh (va_up I 187 (va_up (gN F B (I 187) i) b (nI (rowP F B i j))) 178) a F := by rw [vu_ne (by omega)]; exact hR0
          have wt := r_shapeTouch (X := X) (d := d) (J := J) (by omega) ha hR1 hi hj
          rcases hB.1 j hj with z' | ⟨b', hb', z'⟩
          · rw [rowP_s (.inr z')] at ihj
            simp (disch := first | omega | assumption | exact rfl) only [U_206_9, U_206_12, XX, QQ, WW, KK, QX, SHs, RRs, Nat.reduceAdd, Nat.reduceMul, Nat.reduceLeDiff, Nat.reduceEqDiff, List.length_cons, List.length_nil, decide_true, decide_false, Bool.true_and, Bool.and_true, Bool.false_and, Bool.and_false, false_and, and_false, Bool.false_eq_true, Bool.true_eq_false, reduceCtorEq, eq_self, if_true, if_false, true_and, and_true, not_true_eq_false, not_false_eq_true, if_pos, if_neg, z_ite_not, false_or, or_false, true_or, or_true, SWs, swk_0, swk_1, h1, hT, z']
            exact ihj
          · by_cases q : adj (pl F i) (pl F j)
            · rw [rowP_i hb' z' q] at ihj
              have cq := cd_iff.mpr q
              simp (disch := first | omega | assumption | exact rfl) only [U_206_9, U_206_10, U_206_11, U_206_12, XX, QQ, WW, KK, QX, SHs, RRs, Nat.reduceAdd, Nat.reduceMul, Nat.reduceLeDiff, Nat.reduceEqDiff, List.length_cons, List.length_nil, decide_true, decide_false, Bool.true_and, Bool.and_true, Bool.false_and, Bool.and_false, false_and, and_false, Bool.false_eq_true, Bool.true_eq_false, reduceCtorEq, eq_self, if_true, if_false, true_and, and_true, not_true_eq_false, not_false_eq_true, if_pos, if_neg, z_ite_not, false_or, or_false, true_or, or_true, SWs, swk_0, swk_1, h1, hT, z, z', wt, cq, fa_or]
              exact ihj
            · rw [rowP_s (.inl q)] at ihj
              have cq := cd_f.mpr q
              simp (disch := first | omega | assumption | exact rfl) only [U_206_9, U_206_10, U_206_12, XX, QQ, WW, KK, QX, SHs, RRs, Nat.reduceAdd, Nat.reduceMul, Nat.reduceLeDiff, Nat.reduceEqDiff, List.length_cons, List.length_nil, decide_true, decide_false, Bool.true_and, Bool.and_true, Bool.false_and, Bool.and_false, false_and, and_false, Bool.false_eq_true, Bool.true_eq_false, reduceCtorEq, eq_self, if_true, if_false, true_and, and_true, not_true_eq_false, not_false_eq_true, if_pos, if_neg, z_ite_not, false_or, or_false, true_or, or_true, SWs, swk_0, swk_1, h1, hT, z, z', wt, cq, fa_or]
              exact ihj
  · intro b hb ih
    rw [U_206_1]
    rw [← fillI_s] at ih
    simp (disch := first | omega | assumption | exact rfl) only [U_206_2, XX, QQ, WW, KK, QX, SHs, RRs, Nat.reduceAdd, Nat.reduceMul, Nat.reduceLeDiff, Nat.reduceEqDiff, List.length_cons, List.length_nil, decide_true, decide_false, Bool.true_and, Bool.and_true, Bool.false_and, Bool.and_false, false_and, and_false, Bool.false_eq_true, Bool.true_eq_false, reduceCtorEq, eq_self, if_true, if_false, true_and, and_true, not_true_eq_false, not_false_eq_true, if_pos, if_neg, z_ite_not, false_or, or_false, true_or, or_true, SWs, swk_0, swk_1]
    exact ih
theorem r_reckons {X : Nat × (Nat → Int32)} {d : Nat} {I : Nat → Nat → Int32} {J : Nat → Nat → Int64} {s FS F1 al : Nat} {B1 : Nat → Int32} {mks : Nat → Nat} (hd : 5 ≤ d) (hs : s < 6) (hR : RSh (I 178) s FS) (hB : WB (I 188) (pop FS)) (h26 : I 177 26 = nI (ins F1 B1)) (h186 : ∀ b, b < 24 → I 186 b = nI (nr F1 B1 b)) (hal : I 178 1 = nI al) (hal2 : al < 2) (hm : ∀ k, k < 24 → I 178 (10 + k) = nI (mks k)) (hm4 : ∀ k, k < 24 → mks k < 4) :
    ∃ I1, callF X d 223 [.ref 177, .int (nI s)] (mk I J) = some (none, mk I1 J) ∧ I1 177 32 = nI (pop (badS F1 B1 FS (I 188) al mks)) ∧ I1 177 33 = nI (twi F1 B1 FS (I 188) / 2) ∧ (∀ a, a ≠ 177 → a ≠ 187 → I1 a = I a) ∧ (∀ k, k ≠ 27 → k ≠ 32 → k ≠ 33 → I1 177 k = I 177 k) := by
  obtain ⟨T, eT⟩ : ∃ T, T = I 188 := ⟨_, rfl⟩
  rw [← eT] at hB
  rw [← eT]
  obtain ⟨d, rfl⟩ : ∃ d', d = d' + 1 := ⟨d - 1, by omega⟩
  have l := r_laysTried (X := X) (d := d) (J := J) (by omega) hs hR hB eT.symm
  obtain ⟨Il, eIl⟩ : ∃ Il, Il = va_up I 187 (gN FS T (I 187) (pop FS)) := ⟨_, rfl⟩
  rw [← eIl] at l
  have fl : ∀ a, a ≠ 187 → Il a = I a := fun a ha => by rw [eIl, vu_ne ha]
  have hNS : ∀ h : Nat → Int32, h 26 = nI (ins F1 B1) → h 27 = nI (ins FS T) → NS (va_up Il 177 h) (ins F1 B1) (ins FS T) (nr F1 B1) (nr FS T) := fun h q1 q2 => by
    refine ⟨by rw [vu_eq]; exact q1, by rw [vu_eq]; exact q2, fun b hb => ?_, fun b hb => ?_, ins_lt _ _, ins_lt _ _, nr_lt _ _, nr_lt _ _⟩
    · rw [vu_ne (by decide), fl _ (by decide)]; exact h186 b hb
    · rw [vu_ne (by decide), eIl, vu_eq]; exact if_pos hb
  have n1 := hNS (va_up (Il 177) 27 (nI (ins FS T))) (by rw [vu_ne (by decide), fl _ (by decide)]; exact h26) vu_eq
  have rb := r_badOnes (X := X) (d := d) (J := J) (by omega) n1 (by rw [vu_ne (by decide), fl _ (by decide)]; exact hal) hal2 (by rw [vu_ne (by decide), fl _ (by decide)]; exact hm) hm4
  rw [bad_eq] at rb
  have n2 := hNS (va_up (va_up (Il 177) 27 (nI (ins FS T))) 32 (nI (pop (badS F1 B1 FS T al mks)))) (by rw [vu_ne (by decide), vu_ne (by decide), fl _ (by decide)]; exact h26) (by rw [vu_ne (by decide), vu_eq])
  have rk := r_keptOnes (X := X) (d := d) (J := J) (by omega) n2
  rw [kept_eq] at rk
  have bl : badS F1 B1 FS T al mks < 2 ^ 24 := by unfold badS; exact bs_lt _
  obtain ⟨bS, hbS⟩ : ∃ bS, bS = badS F1 B1 FS T al mks := ⟨_, rfl⟩
  rw [← hbS] at rb rk bl
  rw [← hbS]
  refine ⟨va_up Il 177 (va_up (va_up (va_up (Il 177) 27 (nI (ins FS T))) 32 (nI (pop bS))) 33 (nI (twi F1 B1 FS T / 2))), ?_, ?_, ?_, fun a h1 h2 => ?_, fun k h1 h2 h3 => ?_⟩
  · refine callF_at (by omega) (by decide) (Nat.le_of_ble_eq_true rfl) (fun d' hd' => ?_)
    obtain rfl : d = d' := by omega
    show Ev X d 223 0 [.ref 177, .int (nI s)] [] (mk I J) _
    simp (disch := first | omega | assumption | exact rfl) only [U_223_0, XX, QQ, WW, KK, QX, SHs, RRs, Nat.reduceAdd, Nat.reduceMul, Nat.reduceLeDiff, Nat.reduceEqDiff, List.length_cons, List.length_nil, decide_true, decide_false, Bool.true_and, Bool.and_true, Bool.false_and, Bool.and_false, false_and, and_false, Bool.false_eq_true, Bool.true_eq_false, reduceCtorEq, eq_self, if_true, if_false, true_and, and_true, not_true_eq_false, not_false_eq_true, if_pos, if_neg, z_ite_not, false_or, or_false, true_or, or_true, SWs, swk_0, swk_1, l, rb, rk, r_count]
  · rw [vu_eq, vu_ne (by decide), vu_eq]
  · rw [vu_eq, vu_eq]
  · rw [vu_ne h1, fl a h2]
  · rw [vu_eq, vu_ne h3, vu_ne h2, vu_ne h1, fl _ (by decide)]
theorem wo_and {L b : Nat} (hL : L < 2 ^ 24) (hb : b < 24) : L &&& nt32 (2 ^ b) = wo L b := by
  apply nat_ext
  intro i
  have : 2 ^ b < 2 ^ 32 := Nat.pow_lt_pow_right (by decide) (by omega)
  unfold nt32 wo
  rw [Nat.testBit_and, Bool.and_eq_true, bs_tb, Nat.testBit_two_pow_sub_succ this i, Bool.and_eq_true, decide_eq_true_iff, Bool.not_eq_true', Nat.testBit_two_pow, decide_eq_false_iff_not]
  constructor
  · rintro ⟨a, c, e⟩; exact ⟨tb_lt hL a, a, fun z => e z.symm⟩
  · rintro ⟨a, c, e⟩; exact ⟨c, by omega, fun z => e z.symm⟩
