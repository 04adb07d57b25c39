/-! ===== the class keeps a year ===== -/
def filR (lo hi : Nat) (v : Int32) (g : Nat → Int32) : Nat → Int32 := fun j => if lo ≤ j ∧ j < hi then v else g j
theorem filR_0 {lo : Nat} {v : Int32} {g : Nat → Int32} : filR lo lo v g = g := by funext j; unfold filR; rw [if_neg (by omega)]
theorem filR_s {lo hi : Nat} {v : Int32} {g : Nat → Int32} (h : lo ≤ hi) : va_up (filR lo hi v g) hi v = filR lo (hi + 1) v g := by
  funext j; unfold va_up filR
  by_cases z : j = hi
  · rw [if_pos z, if_pos (by omega)]
  · rw [if_neg z]
    by_cases y : lo ≤ j ∧ j < hi
    · rw [if_pos y, if_pos (by omega)]
    · rw [if_neg y, if_neg (by omega)]
theorem s_fillR {X : Nat × (Nat → Int32)} {d : Nat} {I : Nat → Nat → Int32} {J : Nat → Nat → Int64} {a n lo len : Nat} {v : Int32} (hd : 2 ≤ d) (h : SH a = (20, n)) (hn : n < 2 ^ 31) (hl : lo + len ≤ n) : callF X d 265 [.ref a, .int (nI lo), .int (nI (lo + len)), .int v] (mk I J) = some (none, mk (va_up I a (filR lo (lo + len) v (I a))) J) := by
  have hrc : ∀ M, callF X (d - 1) 262 [.int (nI n), .int (nI lo), .int (nI (lo + len))] M = some (none, M) := fun M => by
    refine callF_at (by omega) (by decide) (Nat.le_of_ble_eq_true rfl) (fun d _ => ?_)
    show Ev X d 262 0 [.int (nI n), .int (nI lo), .int (nI (lo + len))] [] M _
    simp (disch := first | omega | assumption | exact rfl) only [U_262_0, U_262_1, U_262_2, U_262_3, U_262_4, U_262_5, U_262_6, XX, QQ, WW, KK, QX, SHs, RRs, Nat.reduceAdd, Nat.reduceMul, Nat.reduceLeDiff, Nat.reduceEqDiff, List.length_cons, List.length_nil, decide_true, decide_false, Bool.true_and, Bool.and_true, Bool.false_and, Bool.and_false, false_and, and_false, Bool.false_eq_true, Bool.true_eq_false, reduceCtorEq, eq_self, if_true, if_false, true_and, and_true, not_true_eq_false, not_false_eq_true, if_pos, if_neg, z_ite_not, false_or, or_false, true_or, or_true, SWs, swk_0, swk_1]
  obtain ⟨d, rfl⟩ : ∃ d', d = d' + 1 := ⟨d - 1, by omega⟩
  rw [Nat.add_sub_cancel] at hrc
  refine callF_at (by omega) (by decide) (Nat.le_of_ble_eq_true rfl) (fun d' hd' => ?_)
  obtain rfl : d = d' := by omega
  show Ev X d 265 0 [.ref a, .int (nI lo), .int (nI (lo + len)), .int v, .retAddr 0] [] (mk I J) _
  have lp : Ev X d 265 1 [.ref a, .int (nI lo), .int (nI (lo + len)), .int v, .int (nI (lo + 0))] [] (mk I J) (none, mk (va_up I a (filR lo (lo + len) v (I a))) J) := by
    refine lpI (n := len) (P := fun i => Ev X d 265 1 [.ref a, .int (nI lo), .int (nI (lo + len)), .int v, .int (nI (lo + i))] [] (mk (va_up I a (filR lo (lo + i) v (I a))) J) (none, mk (va_up I a (filR lo (lo + len) v (I a))) J)) ?_ ?_ (fun Q => by rw [Nat.add_zero, filR_0, vu_id] at Q; exact Q)
    · rw [U_265_1]
      simp (disch := first | omega | assumption | exact rfl) only [U_265_3, XX, QQ, WW, KK, QX, SHs, RRs, Nat.reduceAdd, Nat.reduceMul, Nat.reduceLeDiff, Nat.reduceEqDiff, List.length_cons, List.length_nil, decide_true, decide_false, Bool.true_and, Bool.and_true, Bool.false_and, Bool.and_false, false_and, and_false, Bool.false_eq_true, Bool.true_eq_false, reduceCtorEq, eq_self, if_true, if_false, true_and, and_true, not_true_eq_false, not_false_eq_true, if_pos, if_neg, z_ite_not, false_or, or_false, true_or, or_true, SWs, swk_0, swk_1]
    · intro i hi ih
      rw [show lo + (i + 1) = lo + i + 1 by omega, ← filR_s (by omega)] at ih
      rw [U_265_1]
      simp (disch := first | omega | assumption | exact rfl) only [U_265_2, XX, QQ, WW, KK, QX, SHs, RRs, Nat.reduceAdd, Nat.reduceMul, Nat.reduceLeDiff, Nat.reduceEqDiff, List.length_cons, List.length_nil, decide_true, decide_false, Bool.true_and, Bool.and_true, Bool.false_and, Bool.and_false, false_and, and_false, Bool.false_eq_true, Bool.true_eq_false, reduceCtorEq, eq_self, if_true, if_false, true_and, and_true, not_true_eq_false, not_false_eq_true, if_pos, if_neg, z_ite_not, false_or, or_false, true_or, or_true, SWs, swk_0, swk_1, h]
      exact ih
  simp (disch := first | omega | assumption | exact rfl) only [U_265_0, XX, QQ, WW, KK, QX, SHs, RRs, Nat.reduceAdd, Nat.reduceMul, Nat.reduceLeDiff, Nat.reduceEqDiff, List.length_cons, List.length_nil, decide_true, decide_false, Bool.true_and, Bool.and_true, Bool.false_and, Bool.and_false, false_and, and_false, Bool.false_eq_true, Bool.true_eq_false, reduceCtorEq, eq_self, if_true, if_false, true_and, and_true, not_true_eq_false, not_false_eq_true, if_pos, if_neg, z_ite_not, false_or, or_false, true_or, or_true, SWs, swk_0, swk_1, h, hrc]
  exact lp
noncomputable def ixB (F : Nat) (B : Nat → Int32) (b : Nat) : Nat := (fstI B (nI b) (pop F) 0).toNatClampNeg
theorem ixB_at {F i b : Nat} {B : Nat → Int32} (hB : WB B (pop F)) (h24 : pop F ≤ 24) (hi : i < pop F) (hb : b < 24) (e : B i = nI b) : ixB F B b = i := by
  unfold ixB
  rcases fstI_spec B (nI b) (pop F) 0 with ⟨_, q⟩ | ⟨j, _, q1, q2, q3, _⟩
  · exact absurd e (q i (by omega) (by omega))
  · rw [q3, nI_clamp (by omega)]
    exact hB.2.1 j i (by omega) hi (q2.trans e.symm) (by rw [q2]; exact nI_ne (by omega))
noncomputable def lfB (F : Nat) (B : Nat → Int32) (b : Nat) : Int32 := brI B (pop F) (tch F (ixB F B b) 1)
noncomputable def kyS (g : Nat → Int32) (base : Nat) (B : Nat → Int32) (z : Int32) (w : Nat → Int32) (m : Nat) : Nat → Int32 := fun j => if base ≤ j ∧ j < base + 24 then (if cd (∃ i, i < m ∧ B i = nI (j - base)) = true then w (j - base) else z) else g j
theorem kyS_0 {g : Nat → Int32} {base : Nat} {B : Nat → Int32} {z : Int32} {w : Nat → Int32} : kyS g base B z w 0 = filR base (base + 24) z g := by
  funext j; unfold kyS filR
  rw [if_neg (c := cd _ = true) (by rw [cd_iff]; rintro ⟨i, h, _⟩; omega)]
theorem kyS_n {g : Nat → Int32} {base m : Nat} {B : Nat → Int32} {z : Int32} {w : Nat → Int32} (h : B m = -1) : kyS g base B z w (m + 1) = kyS g base B z w m := by
  funext j; unfold kyS
  by_cases y : base ≤ j ∧ j < base + 24
  · rw [if_pos y, if_pos y]
    have : cd (∃ i, i < m + 1 ∧ B i = nI (j - base)) = cd (∃ i, i < m ∧ B i = nI (j - base)) := by
      rw [Bool.eq_iff_iff, cd_iff, cd_iff]
      constructor
      · rintro ⟨i, h1, h2⟩
        by_cases e : i = m
        · subst e; rw [h] at h2; exact absurd h2.symm (nI_ne (by omega))
        · exact ⟨i, by omega, h2⟩
      · rintro ⟨i, h1, h2⟩; exact ⟨i, by omega, h2⟩
    rw [this]
  · rw [if_neg y, if_neg y]
theorem kyS_s {g : Nat → Int32} {base m b : Nat} {B : Nat → Int32} {z : Int32} {w : Nat → Int32} (hb : b < 24) (h : B m = nI b) : va_up (kyS g base B z w m) (base + b) (w b) = kyS g base B z w (m + 1) := by
  funext j; unfold va_up kyS
  by_cases e : j = base + b
  · rw [if_pos e, if_pos (by omega), if_pos (by rw [cd_iff]; exact ⟨m, by omega, by rw [h, e, Nat.add_sub_cancel_left]⟩), e, Nat.add_sub_cancel_left]
  · rw [if_neg e]
    by_cases y : base ≤ j ∧ j < base + 24
    · rw [if_pos y, if_pos y]
      have : cd (∃ i, i < m + 1 ∧ B i = nI (j - base)) = cd (∃ i, i < m ∧ B i = nI (j - base)) := by
        rw [Bool.eq_iff_iff, cd_iff, cd_iff]
        constructor
        · rintro ⟨i, h1, h2⟩
          by_cases e' : i = m
          · subst e'; rw [h] at h2
            have := nI_inj (by omega) (by omega) h2
            omega
          · exact ⟨i, by omega, h2⟩
        · rintro ⟨i, h1, h2⟩; exact ⟨i, by omega, h2⟩
      rw [this]
    · rw [if_neg y, if_neg y]
