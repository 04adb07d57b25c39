/-! ===== parting: where a rest is kept ===== -/
theorem h51 (z : Int64) : (z.toUInt64 >>> ((nI 51).toInt64.toUInt64 &&& Int64.toUInt64 63)).toInt64.toInt32 = nI (z.toUInt64.toNat / 2 ^ 51) := by
  have e : ((nI 51).toInt64.toUInt64 &&& Int64.toUInt64 63) = 51 := by decide +kernel
  rw [e]
  have h : z.toUInt64 >>> (51 : UInt64) = UInt64.ofNat (z.toUInt64.toNat / 2 ^ 51) := UInt64.toNat_inj.mp (by
    rw [UInt64.toNat_shiftRight, UInt64.toNat_ofNat', Nat.shiftRight_eq_div_pow]
    have := UInt64.toNat_lt z.toUInt64
    rw [Nat.mod_eq_of_lt (a := z.toUInt64.toNat / 2 ^ 51) (by omega)]
    rfl)
  rw [h]
  refine Int32.toBitVec_inj.mp ?_
  show (BitVec.ofNat 64 (z.toUInt64.toNat / 2 ^ 51)).signExtend 32 = BitVec.ofNat 32 (z.toUInt64.toNat / 2 ^ 51)
  rw [BitVec.signExtend_eq_setWidth_of_le _ (by decide), BitVec.setWidth_ofNat_of_le (by decide)]
theorem c_slotOf {X : Nat × (Nat → Int32)} {d : Nat} {I : Nat → Nat → Int32} {J : Nat → Nat → Int64} {R : Nat} (hd : 2 ≤ d) (hR : R < 2 ^ 64) : ∃ sl, sl < 8192 ∧ callF X d 48 [.ref 158, .long (lN R)] (mk I J) = some (some (.int (nI sl)), mk I J) := by
  have lp : ∀ i, i ≤ 8 → ∀ k, k < 8192 → ∃ sl, sl < 8192 ∧ Ev X (d - 1) 48 1 [.ref 158, .long (lN R), .retAddr 0, .int (nI k), .int (nI i)] [] (mk I J) (some (.int (nI sl)), mk I J) := by
    refine lpd (n := 8) (P := fun i => ∀ k, k < 8192 → ∃ sl, sl < 8192 ∧ Ev X (d - 1) 48 1 [.ref 158, .long (lN R), .retAddr 0, .int (nI k), .int (nI i)] [] (mk I J) (some (.int (nI sl)), mk I J)) ?_ ?_
    · intro k hk
      refine ⟨k, hk, ?_⟩
      rw [U_48_1]
      simp (disch := first | omega | assumption | exact rfl) only [U_48_5, XX, QQ, WW, KK, QX, SHs, RRs, Nat.reduceAdd, Nat.reduceMul, Nat.reduceLeDiff, Nat.reduceEqDiff, List.length_cons, List.length_nil, decide_true, decide_false, Bool.true_and, Bool.and_true, Bool.false_and, Bool.and_false, false_and, and_false, Bool.false_eq_true, Bool.true_eq_false, reduceCtorEq, eq_self, if_true, if_false, true_and, and_true, not_true_eq_false, not_false_eq_true, if_pos, if_neg, z_ite_not, false_or, or_false, true_or, or_true, SWs, swk_0, swk_1]
    · intro i hi ih k hk
      by_cases z1 : lg_cmp (J 159 k) (lN R) = 0
      · refine ⟨k, hk, ?_⟩
        rw [U_48_1]
        simp (disch := first | omega | assumption | exact rfl) only [U_48_2, U_48_5, XX, QQ, WW, KK, QX, SHs, RRs, Nat.reduceAdd, Nat.reduceMul, Nat.reduceLeDiff, Nat.reduceEqDiff, List.length_cons, List.length_nil, decide_true, decide_false, Bool.true_and, Bool.and_true, Bool.false_and, Bool.and_false, false_and, and_false, Bool.false_eq_true, Bool.true_eq_false, reduceCtorEq, eq_self, if_true, if_false, true_and, and_true, not_true_eq_false, not_false_eq_true, if_pos, if_neg, z_ite_not, false_or, or_false, true_or, or_true, SWs, swk_0, swk_1, z1]
      · by_cases z2 : lg_cmp (J 159 k) (lN 0) = 0
        · refine ⟨k, hk, ?_⟩
          rw [U_48_1]
          simp (disch := first | omega | assumption | exact rfl) only [U_48_2, U_48_3, U_48_5, XX, QQ, WW, KK, QX, SHs, RRs, Nat.reduceAdd, Nat.reduceMul, Nat.reduceLeDiff, Nat.reduceEqDiff, List.length_cons, List.length_nil, decide_true, decide_false, Bool.true_and, Bool.and_true, Bool.false_and, Bool.and_false, false_and, and_false, Bool.false_eq_true, Bool.true_eq_false, reduceCtorEq, eq_self, if_true, if_false, true_and, and_true, not_true_eq_false, not_false_eq_true, if_pos, if_neg, z_ite_not, false_or, or_false, true_or, or_true, SWs, swk_0, swk_1, z1, z2]
        · obtain ⟨sl, h1, h2⟩ := ih ((k + 1) % 8192) (Nat.mod_lt _ (by decide))
          refine ⟨sl, h1, ?_⟩
          have e : (k + 1) &&& 8191 = (k + 1) % 8192 := Nat.and_two_pow_sub_one_eq_mod (k + 1) 13
          rw [U_48_1]
          simp (disch := first | omega | assumption | exact rfl) only [U_48_2, U_48_3, U_48_4, XX, QQ, WW, KK, QX, SHs, RRs, Nat.reduceAdd, Nat.reduceMul, Nat.reduceLeDiff, Nat.reduceEqDiff, List.length_cons, List.length_nil, decide_true, decide_false, Bool.true_and, Bool.and_true, Bool.false_and, Bool.and_false, false_and, and_false, Bool.false_eq_true, Bool.true_eq_false, reduceCtorEq, eq_self, if_true, if_false, true_and, and_true, not_true_eq_false, not_false_eq_true, if_pos, if_neg, z_ite_not, false_or, or_false, true_or, or_true, SWs, swk_0, swk_1, z1, z2, fa_and, e]
          exact h2
  obtain ⟨d, rfl⟩ : ∃ d', d = d' + 1 := ⟨d - 1, by omega⟩
  obtain ⟨z, ez⟩ : ∃ z : Int64, z = lN R * -lN 7046029254386353131 := ⟨_, rfl⟩
  have zl := UInt64.toNat_lt z.toUInt64
  obtain ⟨sl, h1, h2⟩ := lp 0 (by decide) (z.toUInt64.toNat / 2 ^ 51) (by omega)
  refine ⟨sl, h1, ?_⟩
  refine callF_at (by omega) (by decide) (Nat.le_of_ble_eq_true rfl) (fun d' hd' => ?_)
  obtain rfl : d = d' := by omega
  show Ev X d 48 0 [.ref 158, .long (lN R), .retAddr 0, .retAddr 0, .retAddr 0] [] (mk I J) _
  simp (disch := first | omega | assumption | exact rfl) only [U_48_0, XX, QQ, WW, KK, QX, SHs, RRs, Nat.reduceAdd, Nat.reduceMul, Nat.reduceLeDiff, Nat.reduceEqDiff, List.length_cons, List.length_nil, decide_true, decide_false, Bool.true_and, Bool.and_true, Bool.false_and, Bool.and_false, false_and, and_false, Bool.false_eq_true, Bool.true_eq_false, reduceCtorEq, eq_self, if_true, if_false, true_and, and_true, not_true_eq_false, not_false_eq_true, if_pos, if_neg, z_ite_not, false_or, or_false, true_or, or_true, SWs, swk_0, swk_1, ← ez, h51]
  exact h2
