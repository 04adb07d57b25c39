/-! ===== order ===== -/
def fstP (p : Nat → Bool) : Nat → Nat → Int32
  | 0, _ => -1
  | k + 1, i => if p i = true then nI i else fstP p k (i + 1)
theorem fstP_spec (p : Nat → Bool) : ∀ k i, (fstP p k i = -1 ∧ ∀ j, i ≤ j → j < i + k → p j = false) ∨ ∃ j, i ≤ j ∧ j < i + k ∧ p j = true ∧ fstP p k i = nI j
  | 0, i => .inl ⟨rfl, fun j h1 h2 => by omega⟩
  | k + 1, i => by
    rw [fstP]
    by_cases h : p i = true
    · exact .inr ⟨i, by omega, by omega, h, if_pos h⟩
    · rw [if_neg h]
      rcases fstP_spec p k (i + 1) with ⟨h1, h2⟩ | ⟨j, h1, h2, h3, h4⟩
      · refine .inl ⟨h1, fun j h3 h4 => ?_⟩
        by_cases e : j = i
        · rw [e]; simpa using h
        · exact h2 j (by omega) (by omega)
      · exact .inr ⟨j, by omega, by omega, h3, h4⟩
noncomputable def rsB (F : Nat) (B : Nat → Int32) (D i : Nat) : Bool := decide (brI B (pop F) (tch F i 3) = -1) || D.testBit (tch F i 3).toNatClampNeg
noncomputable def pkP (F1 : Nat) (B1 : Nat → Int32) (F : Nat) (B : Nat → Int32) (D L : Nat) (s : Bool) (i : Nat) : Bool := isB B i && !D.testBit i && rsB F B D i && (s || decide (nr F B (B i).toNatClampNeg &&& nr F1 B1 (B i).toNatClampNeg &&& L ≠ 0))
noncomputable def pk (F1 : Nat) (B1 : Nat → Int32) (F : Nat) (B : Nat → Int32) (D L : Nat) (s : Bool) : Int32 := fstP (pkP F1 B1 F B D L s) (pop F) 0
/-- the cell that is laid next -/
noncomputable def nxC (F1 : Nat) (B1 : Nat → Int32) (F : Nat) (B : Nat → Int32) (D L : Nat) : Nat := (if pk F1 B1 F B D L false = -1 then pk F1 B1 F B D L true else pk F1 B1 F B D L false).toNatClampNeg
/-- laid cells, laid bricks, starts -/
noncomputable def od (F1 : Nat) (B1 : Nat → Int32) (F : Nat) (B : Nat → Int32) : Nat → Nat × Nat × Nat
  | 0 => (0, 0, 0)
  | k + 1 => ((od F1 B1 F B k).1 ||| 2 ^ nxC F1 B1 F B (od F1 B1 F B k).1 (od F1 B1 F B k).2.1, (od F1 B1 F B k).2.1 ||| 2 ^ (B (nxC F1 B1 F B (od F1 B1 F B k).1 (od F1 B1 F B k).2.1)).toNatClampNeg, (od F1 B1 F B k).2.2 + (if pk F1 B1 F B (od F1 B1 F B k).1 (od F1 B1 F B k).2.1 false = -1 then 1 else 0))
theorem isB_t {B : Nat → Int32} {i b : Nat} (hb : b < 24) (h : B i = nI b) : isB B i = true := by simp [isB, h]; exact nI_ne (by omega)
theorem isB_v {B : Nat → Int32} {N i : Nat} (hB : WB B N) (hi : i < N) (h : isB B i = true) : ∃ b, b < 24 ∧ B i = nI b := by
  rcases hB.1 i hi with z | z
  · simp [isB, z] at h
  · exact z
theorem tb_set {D c i : Nat} : (D ||| 2 ^ c).testBit i = (D.testBit i || decide (c = i)) := by rw [Nat.testBit_or, Nat.testBit_two_pow]
/-- while bricks are left, one can be laid as a start -/
theorem pk_start {F1 F D L : Nat} {B1 B : Nat → Int32} (h24 : pop F ≤ 24) (h : ∃ i, i < pop F ∧ isB B i = true ∧ D.testBit i = false) : ∃ c, c < pop F ∧ pk F1 B1 F B D L true = nI c ∧ isB B c = true ∧ D.testBit c = false := by
  obtain ⟨i, ⟨hi, h1, h2⟩, hmin⟩ : ∃ i, (i < pop F ∧ isB B i = true ∧ D.testBit i = false) ∧ ∀ j, j < i → ¬ (isB B j = true ∧ D.testBit j = false) := by
    obtain ⟨i, h1, h2, h3⟩ := fb_first (p := fun i => isB B i = true ∧ D.testBit i = false) (n := pop F) (by obtain ⟨i, a, b⟩ := h; exact ⟨i, a, b⟩)
    exact ⟨i, ⟨h1, h2⟩, h3⟩
  have hp : pkP F1 B1 F B D L true i = true := by
    have hr : rsB F B D i = true := by
      unfold rsB
      rcases tch_in (s := 3) hi with q | ⟨j, hj, q, _, q2⟩
      · rw [q, brI_m]; simp
      · rw [q, brI_in hj (by omega), nI_clamp (by omega)]
        by_cases z : B j = -1
        · simp [z]
        · have hji : j < i := by
            rw [← pl_ltI hj hi]
            simp only [nbp] at q2
            split at q2 <;> simp at q2
            omega
          have : D.testBit j = true := by
            cases hd : D.testBit j with
            | true => rfl
            | false => exact absurd ⟨by simp [isB, z], hd⟩ (hmin j hji)
          simp [this]
    unfold pkP
    rw [h1, h2, hr]; rfl
  rcases fstP_spec (pkP F1 B1 F B D L true) (pop F) 0 with ⟨_, e⟩ | ⟨c, _, hc, hpc, e⟩
  · have := e i (by omega) (by omega)
    rw [hp] at this; cases this
  · refine ⟨c, by omega, e, ?_, ?_⟩
    · unfold pkP at hpc
      simp only [Bool.and_eq_true] at hpc
      exact hpc.1.1.1
    · unfold pkP at hpc
      simp only [Bool.and_eq_true, Bool.not_eq_true'] at hpc
      exact hpc.1.1.2
theorem pks_in {F1 F D L : Nat} {B1 B : Nat → Int32} {s : Bool} (h24 : pop F ≤ 24) : pk F1 B1 F B D L s = -1 ∨ ∃ c, c < pop F ∧ pk F1 B1 F B D L s = nI c ∧ isB B c = true ∧ D.testBit c = false := by
  rcases fstP_spec (pkP F1 B1 F B D L s) (pop F) 0 with ⟨e, _⟩ | ⟨c, _, hc, hpc, e⟩
  · exact .inl e
  · refine .inr ⟨c, by omega, e, ?_, ?_⟩
    · unfold pkP at hpc
      simp only [Bool.and_eq_true] at hpc
      exact hpc.1.1.1
    · unfold pkP at hpc
      simp only [Bool.and_eq_true, Bool.not_eq_true'] at hpc
      exact hpc.1.1.2
theorem od_inv {F1 F : Nat} {B1 B : Nat → Int32} (h24 : pop F ≤ 24) (hB : WB B (pop F)) : ∀ k, k ≤ fb_ct (isB B) (pop F) → (∀ i, (od F1 B1 F B k).1.testBit i = true → i < pop F ∧ isB B i = true) ∧ fb_ct (od F1 B1 F B k).1.testBit (pop F) = k ∧ (od F1 B1 F B k).2.1 < 2 ^ 24 ∧ (od F1 B1 F B k).2.2 ≤ k ∧ (k < fb_ct (isB B) (pop F) → ∃ c, c < pop F ∧ nxC F1 B1 F B (od F1 B1 F B k).1 (od F1 B1 F B k).2.1 = c ∧ isB B c = true ∧ (od F1 B1 F B k).1.testBit c = false ∧ (pk F1 B1 F B (od F1 B1 F B k).1 (od F1 B1 F B k).2.1 false = -1 → pk F1 B1 F B (od F1 B1 F B k).1 (od F1 B1 F B k).2.1 true = nI c) ∧ (pk F1 B1 F B (od F1 B1 F B k).1 (od F1 B1 F B k).2.1 false ≠ -1 → pk F1 B1 F B (od F1 B1 F B k).1 (od F1 B1 F B k).2.1 false = nI c)) := by
  intro k
  induction k with
  | zero =>
    intro _
    have e0 : od F1 B1 F B 0 = (0, 0, 0) := rfl
    rw [e0]
    refine ⟨fun i hi => (by rw [Nat.zero_testBit] at hi; cases hi), fb_ct_zero.mpr (fun i _ => Nat.zero_testBit i), by decide, Nat.le_refl _, fun hk => ?_⟩
    obtain ⟨i, hi, h1⟩ := fb_ct_pos.mp hk
    obtain ⟨c, c1, c2, c3, c4⟩ := pk_start (F1 := F1) (B1 := B1) (L := 0) (D := 0) h24 ⟨i, hi, h1, Nat.zero_testBit i⟩
    rcases pks_in (F1 := F1) (B1 := B1) (B := B) (L := 0) (D := 0) (s := false) h24 with z | ⟨c', c1', c2', c3', c4'⟩
    · refine ⟨c, c1, ?_, c3, c4, fun _ => c2, fun y => absurd z y⟩
      unfold nxC; simp only [z, if_true, c2]; exact nI_clamp (by omega)
    · refine ⟨c', c1', ?_, c3', c4', fun y => ?_, fun _ => c2'⟩
      · unfold nxC; simp only [c2']; rw [if_neg (nI_ne (by omega))]; exact nI_clamp (by omega)
      · simp only [c2'] at y; exact absurd y (nI_ne (by omega))
  | succ k ih =>
    intro hk
    obtain ⟨h1, h2, h3, h4, h5⟩ := ih (by omega)
    obtain ⟨c, c1, c2, c3, c4, c5, c6⟩ := h5 (by omega)
    obtain ⟨b, hb, eb⟩ := isB_v hB c1 c3
    have e : od F1 B1 F B (k + 1) = ((od F1 B1 F B k).1 ||| 2 ^ c, (od F1 B1 F B k).2.1 ||| 2 ^ b, (od F1 B1 F B k).2.2 + (if pk F1 B1 F B (od F1 B1 F B k).1 (od F1 B1 F B k).2.1 false = -1 then 1 else 0)) := by
      rw [od, c2, eb, nI_clamp (by omega)]
    have g1 : ∀ i, (od F1 B1 F B (k + 1)).1.testBit i = true → i < pop F ∧ isB B i = true := by
      intro i hi
      rw [e] at hi
      simp only [tb_set, Bool.or_eq_true, decide_eq_true_iff] at hi
      rcases hi with hi | rfl
      · exact h1 i hi
      · exact ⟨c1, c3⟩
    have g2 : fb_ct (od F1 B1 F B (k + 1)).1.testBit (pop F) = k + 1 := by
      have u := fb_ct_upd (od F1 B1 F B k).1.testBit true c1
      rw [c4, h2] at u
      simp only [Bool.false_eq_true, if_false, if_true, Nat.add_zero] at u
      refine (fb_ct_cong (fun i _ => ?_)).trans u
      rw [e]
      simp only [tb_set]
      by_cases z : i = c
      · subst z; simp
      · rw [if_neg z, decide_eq_false (fun y => z y.symm), Bool.or_false]
    refine ⟨g1, g2, ?_, ?_, fun hk2 => ?_⟩
    · rw [e]; exact Nat.or_lt_two_pow h3 (Nat.pow_lt_pow_right (by decide) hb)
    · rw [e]; simp only []; split <;> omega
    · obtain ⟨D, hD⟩ : ∃ D, D = (od F1 B1 F B (k + 1)).1 := ⟨_, rfl⟩
      obtain ⟨L, hL⟩ : ∃ L, L = (od F1 B1 F B (k + 1)).2.1 := ⟨_, rfl⟩
      rw [← hD] at g1 g2 ⊢
      rw [← hL]
      have ex : ∃ i, i < pop F ∧ isB B i = true ∧ D.testBit i = false := Classical.byContradiction (fun no => by
        have : fb_ct (isB B) (pop F) ≤ fb_ct D.testBit (pop F) := fb_ct_sub (fun i hi hb => by
          cases hd : D.testBit i with
          | true => rfl
          | false => exact absurd ⟨i, hi, hb, hd⟩ no)
        omega)
      obtain ⟨c, c1, c2, c3, c4⟩ := pk_start (F1 := F1) (B1 := B1) (L := L) h24 ex
      rcases pks_in (F1 := F1) (B1 := B1) (B := B) (L := L) (D := D) (s := false) h24 with z | ⟨c', c1', c2', c3', c4'⟩
      · refine ⟨c, c1, ?_, c3, c4, fun _ => c2, fun y => absurd z y⟩
        unfold nxC; rw [if_pos z, c2]; exact nI_clamp (by omega)
      · refine ⟨c', c1', ?_, c3', c4', fun y => ?_, fun _ => c2'⟩
        · unfold nxC; rw [c2', if_neg (nI_ne (by omega))]; exact nI_clamp (by omega)
        · rw [c2'] at y; exact absurd y (nI_ne (by omega))
/-- the brick laid as the k-th -/
noncomputable def oq (F1 : Nat) (B1 : Nat → Int32) (F : Nat) (B : Nat → Int32) (k : Nat) : Int32 := B (nxC F1 B1 F B (od F1 B1 F B k).1 (od F1 B1 F B k).2.1)
theorem c_rests {X : Nat × (Nat → Int32)} {d : Nat} {I : Nat → Nat → Int32} {J : Nat → Nat → Int64} {W F D i : Nat} (hd : 3 ≤ d) (hW : WG (mk I J) W F) (hi : i < pop F) (h4 : I 171 4 = nI D) (hD : D < 2 ^ 24) : callF X d 81 [.ref 171, .ref W, .int (nI i)] (mk I J) = some (some (.int (bI (rsB F (I (W + 1)) D i))), mk I J) := by
  have h24 := hW.2.2.1
  have hW9 : SH W = (9, 5) := hW.1.1
  refine callF_at (by omega) (by decide) (Nat.le_of_ble_eq_true rfl) (fun d _ => ?_)
  show Ev X d 81 0 [.ref 171, .ref W, .int (nI i), .retAddr 0] [] ( mk I J) _
  have c := s_cellBeside (X := X) (d := d) (s := 3) (by omega) hW hi (by decide)
  have b := s_brickIn (X := X) (d := d) (v := tch F i 3) (by omega) hW
  rw [k_I] at b
  unfold rsB
  rcases tch_in (s := 3) hi with q | ⟨j, hj, q, _, _⟩
  · rw [q] at c b ⊢
    rw [brI_m] at b ⊢
    simp (disch := first | omega | assumption | exact rfl) only [U_81_0, U_81_2, U_81_4, XX, QQ, WW, KK, QX, SHs, RRs, Nat.reduceAdd, Nat.reduceMul, Nat.reduceLeDiff, Nat.reduceEqDiff, List.length_cons, List.length_nil, decide_true, decide_false, Bool.true_and, Bool.and_true, Bool.false_and, Bool.and_false, false_and, and_false, Bool.false_eq_true, Bool.true_eq_false, reduceCtorEq, eq_self, if_true, if_false, true_and, and_true, not_true_eq_false, not_false_eq_true, if_pos, if_neg, z_ite_not, false_or, or_false, true_or, or_true, SWs, swk_0, swk_1, hW9, c, b, Bool.true_or]
  · rw [q] at c b ⊢
    rw [brI_in hj (by omega)] at b ⊢
    by_cases z : I (W + 1) j = -1
    · rw [z] at b ⊢
      simp (disch := first | omega | assumption | exact rfl) only [U_81_0, U_81_2, U_81_4, XX, QQ, WW, KK, QX, SHs, RRs, Nat.reduceAdd, Nat.reduceMul, Nat.reduceLeDiff, Nat.reduceEqDiff, List.length_cons, List.length_nil, decide_true, decide_false, Bool.true_and, Bool.and_true, Bool.false_and, Bool.and_false, false_and, and_false, Bool.false_eq_true, Bool.true_eq_false, reduceCtorEq, eq_self, if_true, if_false, true_and, and_true, not_true_eq_false, not_false_eq_true, if_pos, if_neg, z_ite_not, false_or, or_false, true_or, or_true, SWs, swk_0, swk_1, hW9, c, b, Bool.true_or]
    · cases ht : D.testBit j with
      | true => simp (disch := first | omega | assumption | exact rfl) only [U_81_0, U_81_1, U_81_2, U_81_3, U_81_4, XX, QQ, WW, KK, QX, SHs, RRs, Nat.reduceAdd, Nat.reduceMul, Nat.reduceLeDiff, Nat.reduceEqDiff, List.length_cons, List.length_nil, decide_true, decide_false, Bool.true_and, Bool.and_true, Bool.false_and, Bool.and_false, false_and, and_false, Bool.false_eq_true, Bool.true_eq_false, reduceCtorEq, eq_self, if_true, if_false, true_and, and_true, not_true_eq_false, not_false_eq_true, if_pos, if_neg, z_ite_not, false_or, or_false, true_or, or_true, SWs, swk_0, swk_1, hW9, c, b, z, h4, ht, Bool.or_true, Bool.false_or]
      | false => simp (disch := first | omega | assumption | exact rfl) only [U_81_0, U_81_1, U_81_2, U_81_3, U_81_4, XX, QQ, WW, KK, QX, SHs, RRs, Nat.reduceAdd, Nat.reduceMul, Nat.reduceLeDiff, Nat.reduceEqDiff, List.length_cons, List.length_nil, decide_true, decide_false, Bool.true_and, Bool.and_true, Bool.false_and, Bool.and_false, false_and, and_false, Bool.false_eq_true, Bool.true_eq_false, reduceCtorEq, eq_self, if_true, if_false, true_and, and_true, not_true_eq_false, not_false_eq_true, if_pos, if_neg, z_ite_not, false_or, or_false, true_or, or_true, SWs, swk_0, swk_1, hW9, c, b, z, h4, ht, Bool.or_true, Bool.false_or]
theorem c_nextOf {X : Nat × (Nat → Int32)} {d : Nat} {I : Nat → Nat → Int32} {J : Nat → Nat → Int64} {W F F1 D L al : Nat} {B1 : Nat → Int32} {mks : Nat → Nat} {s : Bool} (hd : 4 ≤ d) (hW : WG (mk I J) W F) (hB : WB (I (W + 1)) (pop F)) (hL : LN I 137 F1 B1 al mks) (h4 : I 171 4 = nI D) (hD : D < 2 ^ 24) (h3 : I 171 3 = nI L) (hL2 : L < 2 ^ 24) : callF X d 80 [.ref 171, .ref W, .ref 137, .int (bI s)] (mk I J) = some (some (.int (pk F1 B1 F (I (W + 1)) D L s)), mk I J) := by
  have h24 := hW.2.2.1
  have hW9 : SH W = (9, 5) := hW.1.1
  have hW1 : SH (W + 1) = (20, 24) := hW.1.2.2.2.2.1
  have hW2 : RR W 2 = some (W + 1) := hW.1.2.1
  have hc : I W 1 = nI (pop F) := hW.2.2.2.2.1
  refine callF_at (by omega) (by decide) (Nat.le_of_ble_eq_true rfl) (fun d _ => ?_)
  show Ev X d 80 0 [.ref 171, .ref W, .ref 137, .int (bI s), .retAddr 0, .retAddr 0] [] ( mk I J) _
  simp (disch := first | omega | assumption | exact rfl) only [U_80_0, XX, QQ, WW, KK, QX, SHs, RRs, Nat.reduceAdd, Nat.reduceMul, Nat.reduceLeDiff, Nat.reduceEqDiff, List.length_cons, List.length_nil, decide_true, decide_false, Bool.true_and, Bool.and_true, Bool.false_and, Bool.and_false, false_and, and_false, Bool.false_eq_true, Bool.true_eq_false, reduceCtorEq, eq_self, if_true, if_false, true_and, and_true, not_true_eq_false, not_false_eq_true, if_pos, if_neg, z_ite_not, false_or, or_false, true_or, or_true, SWs, swk_0, swk_1]
  unfold pk
  refine lp0 (n := pop F) (P := fun i => ∀ u5 : Value, Ev X d 80 1 [.ref 171, .ref W, .ref 137, .int (bI s), .int (nI i), u5] [] (mk I J) (some (.int (fstP (pkP F1 B1 F (I (W + 1)) D L s) (pop F - i) i)), mk I J)) ?_ ?_ _
  · intro u5
    rw [U_80_1, Nat.sub_self, fstP]
    simp (disch := first | omega | assumption | exact rfl) only [U_80_10, XX, QQ, WW, KK, QX, SHs, RRs, Nat.reduceAdd, Nat.reduceMul, Nat.reduceLeDiff, Nat.reduceEqDiff, List.length_cons, List.length_nil, decide_true, decide_false, Bool.true_and, Bool.and_true, Bool.false_and, Bool.and_false, false_and, and_false, Bool.false_eq_true, Bool.true_eq_false, reduceCtorEq, eq_self, if_true, if_false, true_and, and_true, not_true_eq_false, not_false_eq_true, if_pos, if_neg, z_ite_not, false_or, or_false, true_or, or_true, SWs, swk_0, swk_1, hW9, hc]
  · intro i hi ih u5
    rw [U_80_1, show pop F - i = (pop F - (i + 1)) + 1 by omega, fstP]
    have rs := c_rests (X := X) (d := d) (by omega) hW hi h4 hD
    rcases hB.1 i hi with z | ⟨b, hb, z⟩
    · have e : pkP F1 B1 F (I (W + 1)) D L s i = false := by simp [pkP, isB, z]
      rw [e]
      simp only [Bool.false_eq_true, if_false]
      simp (disch := first | omega | assumption | exact rfl) only [U_80_2, U_80_9, XX, QQ, WW, KK, QX, SHs, RRs, Nat.reduceAdd, Nat.reduceMul, Nat.reduceLeDiff, Nat.reduceEqDiff, List.length_cons, List.length_nil, decide_true, decide_false, Bool.true_and, Bool.and_true, Bool.false_and, Bool.and_false, false_and, and_false, Bool.false_eq_true, Bool.true_eq_false, reduceCtorEq, eq_self, if_true, if_false, true_and, and_true, not_true_eq_false, not_false_eq_true, if_pos, if_neg, z_ite_not, false_or, or_false, true_or, or_true, SWs, swk_0, swk_1, hW9, hc, hW1, hW2, z, s_isOf]
      exact ih _
    · have ib := isB_t hb z
      cases ht : D.testBit i with
      | true =>
        have e : pkP F1 B1 F (I (W + 1)) D L s i = false := by simp [pkP, ht]
        rw [e]
        simp only [Bool.false_eq_true, if_false]
        simp (disch := first | omega | assumption | exact rfl) only [U_80_2, U_80_3, U_80_9, XX, QQ, WW, KK, QX, SHs, RRs, Nat.reduceAdd, Nat.reduceMul, Nat.reduceLeDiff, Nat.reduceEqDiff, List.length_cons, List.length_nil, decide_true, decide_false, Bool.true_and, Bool.and_true, Bool.false_and, Bool.and_false, false_and, and_false, Bool.false_eq_true, Bool.true_eq_false, reduceCtorEq, eq_self, if_true, if_false, true_and, and_true, not_true_eq_false, not_false_eq_true, if_pos, if_neg, z_ite_not, false_or, or_false, true_or, or_true, SWs, swk_0, swk_1, hW9, hc, hW1, hW2, z, s_isOf, h4, ht]
        exact ih _
      | false =>
        cases hr : rsB F (I (W + 1)) D i with
        | false =>
          have e : pkP F1 B1 F (I (W + 1)) D L s i = false := by simp [pkP, hr]
          rw [e]
          rw [hr] at rs
          simp only [Bool.false_eq_true, if_false]
          simp (disch := first | omega | assumption | exact rfl) only [U_80_2, U_80_3, U_80_4, U_80_5, U_80_9, XX, QQ, WW, KK, QX, SHs, RRs, Nat.reduceAdd, Nat.reduceMul, Nat.reduceLeDiff, Nat.reduceEqDiff, List.length_cons, List.length_nil, decide_true, decide_false, Bool.true_and, Bool.and_true, Bool.false_and, Bool.and_false, false_and, and_false, Bool.false_eq_true, Bool.true_eq_false, reduceCtorEq, eq_self, if_true, if_false, true_and, and_true, not_true_eq_false, not_false_eq_true, if_pos, if_neg, z_ite_not, false_or, or_false, true_or, or_true, SWs, swk_0, swk_1, hW9, hc, hW1, hW2, z, s_isOf, h4, ht, rs]
          exact ih _
        | true =>
          rw [hr] at rs
          cases s with
          | true =>
            have e : pkP F1 B1 F (I (W + 1)) D L true i = true := by simp [pkP, hr, ht, ib]
            rw [e, if_pos rfl]
            simp (disch := first | omega | assumption | exact rfl) only [U_80_2, U_80_3, U_80_4, U_80_6, U_80_8, XX, QQ, WW, KK, QX, SHs, RRs, Nat.reduceAdd, Nat.reduceMul, Nat.reduceLeDiff, Nat.reduceEqDiff, List.length_cons, List.length_nil, decide_true, decide_false, Bool.true_and, Bool.and_true, Bool.false_and, Bool.and_false, false_and, and_false, Bool.false_eq_true, Bool.true_eq_false, reduceCtorEq, eq_self, if_true, if_false, true_and, and_true, not_true_eq_false, not_false_eq_true, if_pos, if_neg, z_ite_not, false_or, or_false, true_or, or_true, SWs, swk_0, swk_1, hW9, hc, hW1, hW2, z, s_isOf, h4, ht, rs]
          | false =>
            have sb := s_besideOf (X := X) (d := d) (i := i) (by omega) hW hB hi
            rw [k_I, ← nr_at hB hi hb z] at sb
            have lb := hL.1 b hb
            have lb' : I 138 b = nI (nr F1 B1 b) := lb
            have a1 : nr F (I (W + 1)) b &&& L &&& nr F1 B1 b < 2 ^ 24 := and_lt24 (and_lt24 (nr_lt _ _ _))
            have ac : nr F (I (W + 1)) b &&& L &&& nr F1 B1 b = nr F (I (W + 1)) b &&& nr F1 B1 b &&& L := by rw [Nat.and_assoc, Nat.and_comm L, Nat.and_assoc]
            have e : pkP F1 B1 F (I (W + 1)) D L false i = decide (nr F (I (W + 1)) b &&& nr F1 B1 b &&& L ≠ 0) := by
              simp only [pkP, hr, ht, ib, z]; rw [nI_clamp (by omega)]; simp
            rw [e]
            by_cases y : nr F (I (W + 1)) b &&& nr F1 B1 b &&& L = 0
            · rw [if_neg (by simp [y])]
              rw [← ac] at y
              simp (disch := first | omega | assumption | exact rfl) only [U_80_2, U_80_3, U_80_4, U_80_6, U_80_7, U_80_9, XX, QQ, WW, KK, QX, SHs, RRs, Nat.reduceAdd, Nat.reduceMul, Nat.reduceLeDiff, Nat.reduceEqDiff, List.length_cons, List.length_nil, decide_true, decide_false, Bool.true_and, Bool.and_true, Bool.false_and, Bool.and_false, false_and, and_false, Bool.false_eq_true, Bool.true_eq_false, reduceCtorEq, eq_self, if_true, if_false, true_and, and_true, not_true_eq_false, not_false_eq_true, if_pos, if_neg, z_ite_not, false_or, or_false, true_or, or_true, SWs, swk_0, swk_1, hW9, hc, hW1, hW2, z, s_isOf, h4, ht, rs, sb, h3, fa_and, n_bit2, lb', y]
              exact ih _
            · rw [if_pos (by simp [y])]
              rw [← ac] at y
              simp (disch := first | omega | assumption | exact rfl) only [U_80_2, U_80_3, U_80_4, U_80_6, U_80_7, U_80_8, XX, QQ, WW, KK, QX, SHs, RRs, Nat.reduceAdd, Nat.reduceMul, Nat.reduceLeDiff, Nat.reduceEqDiff, List.length_cons, List.length_nil, decide_true, decide_false, Bool.true_and, Bool.and_true, Bool.false_and, Bool.and_false, false_and, and_false, Bool.false_eq_true, Bool.true_eq_false, reduceCtorEq, eq_self, if_true, if_false, true_and, and_true, not_true_eq_false, not_false_eq_true, if_pos, if_neg, z_ite_not, false_or, or_false, true_or, or_true, SWs, swk_0, swk_1, hW9, hc, hW1, hW2, z, s_isOf, h4, ht, rs, sb, h3, fa_and, n_bit2, lb', y]
/-- the class's sequence behind k steps -/
def SQ (I : Nat → Nat → Int32) (F1 : Nat) (B1 : Nat → Int32) (F : Nat) (B : Nat → Int32) (k : Nat) : Prop := I 171 1 = nI k ∧ I 171 2 = nI (od F1 B1 F B k).2.2 ∧ I 171 3 = nI (od F1 B1 F B k).2.1 ∧ I 171 4 = nI (od F1 B1 F B k).1 ∧ ∀ j, j < k → I 172 j = oq F1 B1 F B j
theorem c_build {X : Nat × (Nat → Int32)} {d : Nat} {I : Nat → Nat → Int32} {J : Nat → Nat → Int64} {W F F1 al : Nat} {B1 : Nat → Int32} {mks : Nat → Nat} (hd : 6 ≤ d) (hW : WG (mk I J) W F) (hWl : W + 3 < 137) (hB : WB (I (W + 1)) (pop F)) (hL : LN I 137 F1 B1 al mks) : ∃ I', callF X d 79 [.ref 171, .ref W, .ref 137] (mk I J) = some (none, mk I' J) ∧ SQ I' F1 B1 F (I (W + 1)) (fb_ct (isB (I (W + 1))) (pop F)) ∧ ∀ a, a ≠ 171 → a ≠ 172 → I' a = I a := by
  have h24 := hW.2.2.1
  have hW9 : SH W = (9, 5) := hW.1.1
  obtain ⟨d, rfl⟩ : ∃ d', d = d' + 1 := ⟨d - 1, by omega⟩
  obtain ⟨B, hBe⟩ : ∃ B, B = I (W + 1) := ⟨_, rfl⟩
  obtain ⟨n, hn⟩ : ∃ n, n = fb_ct (isB B) (pop F) := ⟨_, rfl⟩
  have n24 : n ≤ 24 := by rw [hn]; exact Nat.le_trans (fb_ct_le _ _) h24
  rw [← hBe] at hB
  have inv := od_inv (F1 := F1) (B1 := B1) h24 hB
  rw [← hn] at inv
  have bi := fun (I0 : Nat → Nat → Int32) (h0 : WG (mk I0 J) W F) (e0 : I0 (W + 1) = B) => s_bricksIn (X := X) (d := d) (by omega) h0
  obtain ⟨I0, hI0⟩ : ∃ I0, I0 = va_up I 171 (va_up (va_up (va_up (va_up (I 171) 1 (nI 0)) 2 (nI 0)) 3 (nI 0)) 4 (nI 0)) := ⟨_, rfl⟩
  have f0 : ∀ a, a ≠ 171 → I0 a = I a := fun a ha => by rw [hI0, vu_ne ha]
  have hW0 : WG (mk I0 J) W F := WG_fr hW (fun a _ _ => f0 a (by omega)) rfl
  have b0 := bi I0 hW0 (by rw [f0 _ (by omega), hBe])
  rw [k_I, f0 (W + 1) (by omega), ← hBe, ← hn] at b0
  have lp : ∃ I', (SQ I' F1 B1 F B n ∧ ∀ a, a ≠ 171 → a ≠ 172 → I' a = I a) ∧ Ev X d 79 1 [.ref 171, .ref W, .ref 137, .int (nI n), .int (nI 0), .retAddr 0] [] (mk I0 J) (none, mk I' J) := by
    refine lpI (n := n) (P := fun k => ∀ I1, (SQ I1 F1 B1 F B k ∧ ∀ a, a ≠ 171 → a ≠ 172 → I1 a = I a) → ∀ u5 : Value, ∃ I', (SQ I' F1 B1 F B n ∧ ∀ a, a ≠ 171 → a ≠ 172 → I' a = I a) ∧ Ev X d 79 1 [.ref 171, .ref W, .ref 137, .int (nI n), .int (nI k), u5] [] (mk I1 J) (none, mk I' J)) ?_ ?_ (fun L => L I0 ⟨⟨?_, ?_, ?_, ?_, fun j hj => by omega⟩, fun a h1 _ => f0 a h1⟩ _)
    · intro I1 q u5
      refine ⟨I1, q, ?_⟩
      rw [U_79_1]
      simp (disch := first | omega | assumption | exact rfl) only [U_79_5, XX, QQ, WW, KK, QX, SHs, RRs, Nat.reduceAdd, Nat.reduceMul, Nat.reduceLeDiff, Nat.reduceEqDiff, List.length_cons, List.length_nil, decide_true, decide_false, Bool.true_and, Bool.and_true, Bool.false_and, Bool.and_false, false_and, and_false, Bool.false_eq_true, Bool.true_eq_false, reduceCtorEq, eq_self, if_true, if_false, true_and, and_true, not_true_eq_false, not_false_eq_true, if_pos, if_neg, z_ite_not, false_or, or_false, true_or, or_true, SWs, swk_0, swk_1]
    · intro k hk ih I1 q u5
      obtain ⟨⟨q1, q2, q3, q4, q5⟩, q6⟩ := q
      obtain ⟨v1, v2, v3, v4, v5⟩ := inv k (by omega)
      obtain ⟨c, c1, c2, c3, c4, c5, c6⟩ := v5 hk
      obtain ⟨b, hb, eb⟩ := isB_v hB c1 c3
      obtain ⟨D, hD⟩ : ∃ D, D = (od F1 B1 F B k).1 := ⟨_, rfl⟩
      obtain ⟨L, hLe⟩ : ∃ L, L = (od F1 B1 F B k).2.1 := ⟨_, rfl⟩
      obtain ⟨st, hst⟩ : ∃ st, st = (od F1 B1 F B k).2.2 := ⟨_, rfl⟩
      have eo : od F1 B1 F B (k + 1) = (D ||| 2 ^ c, L ||| 2 ^ b, st + (if pk F1 B1 F B D L false = -1 then 1 else 0)) := by
        rw [od, c2, eb, nI_clamp (by omega), hD, hLe, hst]
      have eq : oq F1 B1 F B k = nI b := by unfold oq; rw [c2, eb]
      rw [← hD, ← hLe] at c2 c5 c6
      rw [← hD] at v1 v2 c4 q4
      rw [← hLe] at v3 q3
      rw [← hst] at v4 q2
      have D24 : D < 2 ^ 24 := by
        apply Nat.lt_pow_two_of_testBit
        intro i hi
        cases hd : D.testBit i with
        | false => rfl
        | true => have := (v1 i hd).1; omega
      have eB : I1 (W + 1) = B := by rw [q6 _ (by omega) (by omega), hBe]
      have hW1 : WG (mk I1 J) W F := WG_fr hW (fun a _ _ => q6 a (by omega) (by omega)) rfl
      have hL1 : LN I1 137 F1 B1 al mks := by
        obtain ⟨l1, l2, l3⟩ := hL
        refine ⟨fun b hb => ?_, ?_, fun k hk => ?_⟩
        · rw [q6 _ (by decide) (by decide)]; exact l1 b hb
        · rw [q6 _ (by decide) (by decide)]; exact l2
        · rw [q6 _ (by decide) (by decide)]; exact l3 k hk
      have nf := c_nextOf (X := X) (d := d) (I := I1) (s := false) (by omega) hW1 (by rw [eB]; exact hB) hL1 q4 D24 q3 v3
      rw [eB, show bI false = nI 0 from rfl] at nf
      -- laying the cell
      have ad : ∀ I2, (∀ a, a ≠ 171 → I2 a = I1 a) → I2 171 1 = nI k → I2 171 3 = nI L → I2 171 4 = nI D → callF X d 82 [.ref 171, .int (nI b), .int (nI c)] (mk I2 J) = some (none, mk (va_up (va_up I2 172 (va_up (I2 172) k (nI b))) 171 (va_up (va_up (va_up (I2 171) 1 (nI (k + 1))) 3 (nI (L ||| 2 ^ b))) 4 (nI (D ||| 2 ^ c)))) J) := by
        intro I2 g1 g2 g3 g4
        refine callF_at (by omega) (by decide) (Nat.le_of_ble_eq_true rfl) (fun d _ => ?_)
        show Ev X d 82 0 [.ref 171, .int (nI b), .int (nI c)] [] (mk I2 J) _
        simp (disch := first | omega | assumption | exact rfl) only [U_82_0, U_82_1, U_82_2, U_82_3, XX, QQ, WW, KK, QX, SHs, RRs, Nat.reduceAdd, Nat.reduceMul, Nat.reduceLeDiff, Nat.reduceEqDiff, List.length_cons, List.length_nil, decide_true, decide_false, Bool.true_and, Bool.and_true, Bool.false_and, Bool.and_false, false_and, and_false, Bool.false_eq_true, Bool.true_eq_false, reduceCtorEq, eq_self, if_true, if_false, true_and, and_true, not_true_eq_false, not_false_eq_true, if_pos, if_neg, z_ite_not, false_or, or_false, true_or, or_true, SWs, swk_0, swk_1, s_isOf, g2, g3, g4, fa_or]
      have br : ∀ I2, (∀ a, a ≠ 171 → I2 a = I1 a) → callF X d 96 [.ref W, .int (nI c)] (mk I2 J) = some (some (.int (nI b)), mk I2 J) := by
        intro I2 g1
        have h2 : WG (mk I2 J) W F := WG_fr hW1 (fun a _ _ => g1 a (by omega)) rfl
        have := s_brickIn (X := X) (d := d) (v := nI c) (by omega) h2
        rw [k_I, brI_in c1 (by omega), g1 (W + 1) (by omega), eB, eb] at this
        exact this
      have step : ∀ I2, (∀ a, a ≠ 171 → I2 a = I1 a) → I2 171 1 = nI k → I2 171 3 = nI L → I2 171 4 = nI D → I2 171 2 = nI (od F1 B1 F B (k + 1)).2.2 → ∃ I', (SQ I' F1 B1 F B n ∧ ∀ a, a ≠ 171 → a ≠ 172 → I' a = I a) ∧ Ev X d 79 4 [.ref 171, .ref W, .ref 137, .int (nI n), .int (nI k), .int (nI c)] [] (mk I2 J) (none, mk I' J) := by
        intro I2 g1 g2 g3 g4 g5
        have a1 := ad I2 g1 g2 g3 g4
        have a2 := br I2 g1
        obtain ⟨I3, hI3⟩ : ∃ I3, I3 = va_up (va_up I2 172 (va_up (I2 172) k (nI b))) 171 (va_up (va_up (va_up (I2 171) 1 (nI (k + 1))) 3 (nI (L ||| 2 ^ b))) 4 (nI (D ||| 2 ^ c))) := ⟨_, rfl⟩
        rw [← hI3] at a1
        have hS : SQ I3 F1 B1 F B (k + 1) ∧ ∀ a, a ≠ 171 → a ≠ 172 → I3 a = I a := by
          refine ⟨⟨?_, ?_, ?_, ?_, fun j hj => ?_⟩, fun a h1 h2 => ?_⟩
          · rw [hI3, vu_eq, vu_ne (by decide), vu_ne (by decide), vu_eq]
          · rw [hI3, vu_eq, vu_ne (by decide), vu_ne (by decide), vu_ne (by decide)]; exact g5
          · rw [hI3, vu_eq, vu_ne (by decide), vu_eq, eo]
          · rw [hI3, vu_eq, vu_eq, eo]
          · rw [hI3, vu_ne (by decide), vu_eq]
            by_cases y : j = k
            · rw [y, vu_eq, eq]
            · rw [vu_ne y, g1 _ (by decide)]; exact q5 j (by omega)
          · rw [hI3, vu_ne h1, vu_ne h2, g1 a h1, q6 a h1 h2]
        obtain ⟨I', p1, p2⟩ := ih I3 hS (.int (nI c))
        refine ⟨I', p1, ?_⟩
        simp (disch := first | omega | assumption | exact rfl) only [U_79_4, XX, QQ, WW, KK, QX, SHs, RRs, Nat.reduceAdd, Nat.reduceMul, Nat.reduceLeDiff, Nat.reduceEqDiff, List.length_cons, List.length_nil, decide_true, decide_false, Bool.true_and, Bool.and_true, Bool.false_and, Bool.and_false, false_and, and_false, Bool.false_eq_true, Bool.true_eq_false, reduceCtorEq, eq_self, if_true, if_false, true_and, and_true, not_true_eq_false, not_false_eq_true, if_pos, if_neg, z_ite_not, false_or, or_false, true_or, or_true, SWs, swk_0, swk_1, hW9, a2, a1]
        exact p2
      by_cases z : pk F1 B1 F B D L false = -1
      · have pt := c5 z
        rw [z] at nf
        obtain ⟨I2, hI2⟩ : ∃ I2, I2 = va_up I1 171 (va_up (I1 171) 2 (nI (st + 1))) := ⟨_, rfl⟩
        have g1 : ∀ a, a ≠ 171 → I2 a = I1 a := fun a ha => by rw [hI2, vu_ne ha]
        have g3 : I2 171 3 = nI L := by rw [hI2, vu_eq, vu_ne (by decide)]; exact q3
        have g4 : I2 171 4 = nI D := by rw [hI2, vu_eq, vu_ne (by decide)]; exact q4
        have hW2 : WG (mk I2 J) W F := WG_fr hW1 (fun a _ _ => g1 a (by omega)) rfl
        have nt := c_nextOf (X := X) (d := d) (I := I2) (s := true) (by omega) hW2 (by rw [g1 _ (by omega), eB]; exact hB) (F1 := F1) (B1 := B1) (al := al) (mks := mks) (by
          obtain ⟨l1, l2, l3⟩ := hL1
          refine ⟨fun b hb => ?_, ?_, fun k hk => ?_⟩
          · rw [g1 _ (by decide)]; exact l1 b hb
          · rw [g1 _ (by decide)]; exact l2
          · rw [g1 _ (by decide)]; exact l3 k hk) g4 D24 g3 v3
        rw [g1 (W + 1) (by omega), eB, pt, show bI true = nI 1 from rfl] at nt
        obtain ⟨I', p1, p2⟩ := step I2 g1 (by rw [hI2, vu_eq, vu_ne (by decide)]; exact q1) g3 g4 (by rw [hI2, vu_eq, vu_eq, eo]; simp only [z, if_true])
        refine ⟨I', p1, ?_⟩
        rw [hI2] at nt p2
        rw [U_79_1]
        simp (disch := first | omega | assumption | exact rfl) only [U_79_2, U_79_3, XX, QQ, WW, KK, QX, SHs, RRs, Nat.reduceAdd, Nat.reduceMul, Nat.reduceLeDiff, Nat.reduceEqDiff, List.length_cons, List.length_nil, decide_true, decide_false, Bool.true_and, Bool.and_true, Bool.false_and, Bool.and_false, false_and, and_false, Bool.false_eq_true, Bool.true_eq_false, reduceCtorEq, eq_self, if_true, if_false, true_and, and_true, not_true_eq_false, not_false_eq_true, if_pos, if_neg, z_ite_not, false_or, or_false, true_or, or_true, SWs, swk_0, swk_1, nf, q2, nt]
        exact p2
      · have pf := c6 z
        rw [pf] at nf
        obtain ⟨I', p1, p2⟩ := step I1 (fun _ _ => rfl) q1 q3 q4 (by rw [eo]; simp only [z, if_false, Nat.add_zero]; exact q2)
        refine ⟨I', p1, ?_⟩
        rw [U_79_1]
        simp (disch := first | omega | assumption | exact rfl) only [U_79_2, XX, QQ, WW, KK, QX, SHs, RRs, Nat.reduceAdd, Nat.reduceMul, Nat.reduceLeDiff, Nat.reduceEqDiff, List.length_cons, List.length_nil, decide_true, decide_false, Bool.true_and, Bool.and_true, Bool.false_and, Bool.and_false, false_and, and_false, Bool.false_eq_true, Bool.true_eq_false, reduceCtorEq, eq_self, if_true, if_false, true_and, and_true, not_true_eq_false, not_false_eq_true, if_pos, if_neg, z_ite_not, false_or, or_false, true_or, or_true, SWs, swk_0, swk_1, nf]
        exact p2
    · rw [hI0, vu_eq, vu_ne (by decide), vu_ne (by decide), vu_ne (by decide), vu_eq]
    · rw [hI0, vu_eq, vu_ne (by decide), vu_ne (by decide), vu_eq]; rfl
    · rw [hI0, vu_eq, vu_ne (by decide), vu_eq]; rfl
    · rw [hI0, vu_eq, vu_eq]; rfl
  obtain ⟨I', ⟨p1, p2⟩, p3⟩ := lp
  refine ⟨I', ?_, by rw [← hBe, ← hn]; exact p1, p2⟩
  refine callF_at (by omega) (by decide) (Nat.le_of_ble_eq_true rfl) (fun d' hd' => ?_)
  obtain rfl : d = d' := by omega
  show Ev X d 79 0 [.ref 171, .ref W, .ref 137, .retAddr 0, .retAddr 0, .retAddr 0] [] (mk I J) _
  rw [hI0] at b0 p3
  simp (disch := first | omega | assumption | exact rfl) only [U_79_0, XX, QQ, WW, KK, QX, SHs, RRs, Nat.reduceAdd, Nat.reduceMul, Nat.reduceLeDiff, Nat.reduceEqDiff, List.length_cons, List.length_nil, decide_true, decide_false, Bool.true_and, Bool.and_true, Bool.false_and, Bool.and_false, false_and, and_false, Bool.false_eq_true, Bool.true_eq_false, reduceCtorEq, eq_self, if_true, if_false, true_and, and_true, not_true_eq_false, not_false_eq_true, if_pos, if_neg, z_ite_not, false_or, or_false, true_or, or_true, SWs, swk_0, swk_1, hW9, b0]
  exact p3
