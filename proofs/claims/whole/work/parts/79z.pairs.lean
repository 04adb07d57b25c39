/-! ===== pairs laid: what both do ===== -/
def prR (B : Nat → Int32) (l0 g0 l1 g1 : Nat → Nat) (base : Nat → Int32) : Nat → (Nat → Int32)
  | 0 => base
  | k + 1 => va_up (va_up (prR B l0 g0 l1 g1 base k) (l1 k) (B (l0 k))) (g1 k) (B (g0 k))
def ldR (l0 g0 : Nat → Nat) : Nat → (Nat → Bool)
  | 0 => fun _ => false
  | k + 1 => va_up (va_up (ldR l0 g0 k) (l0 k) true) (g0 k) true
def nxE (N : Nat) (s : Nat × (Nat → Int32)) : Nat := fa_first (fun x => decide (s.1 ≤ x) && decide (s.2 x = -1)) N
def rstE (B : Nat → Int32) (N i : Nat) (s : Nat × (Nat → Int32)) : Nat × (Nat → Int32) := (nxE N s, if nxE N s < N then va_up s.2 (nxE N s) (B i) else s.2)
theorem nxE_ge {N : Nat} {s : Nat × (Nat → Int32)} (h : s.1 ≤ N) : s.1 ≤ nxE N s ∧ nxE N s ≤ N := by
  have hl := fa_first_le (fun x => decide (s.1 ≤ x) && decide (s.2 x = -1)) N
  refine ⟨?_, hl⟩
  rcases Nat.lt_or_ge (nxE N s) N with z | z
  · have := fa_first_yes (fun x => decide (s.1 ≤ x) && decide (s.2 x = -1)) N z
    rw [Bool.and_eq_true, decide_eq_true_iff, decide_eq_true_iff] at this
    exact this.1
  · omega
theorem nxE_yes {N : Nat} {s : Nat × (Nat → Int32)} (h : nxE N s < N) : s.2 (nxE N s) = -1 := by
  have := fa_first_yes (fun x => decide (s.1 ≤ x) && decide (s.2 x = -1)) N h
  rw [Bool.and_eq_true, decide_eq_true_iff, decide_eq_true_iff] at this
  exact this.2
theorem nxE_no {N k : Nat} {s : Nat × (Nat → Int32)} (h1 : s.1 ≤ k) (h : k < nxE N s) : ¬ s.2 k = -1 := fun z => by
  have := fa_first_no (fun x => decide (s.1 ≤ x) && decide (s.2 x = -1)) N k h
  rw [decide_eq_true h1, decide_eq_true z] at this
  cases this
noncomputable def l0F (F : Nat) (mem : Nat → Bool) (k : Nat) : Nat := kth (lsr F mem) (pop F) k
noncomputable def g0F (F : Nat) (mem : Nat → Bool) (k : Nat) : Nat := cw F mem (pop F) (l0F F mem k) - 1
theorem l0F_s {F k : Nat} {mem : Nat → Bool} (hk : k < fb_ct (lsr F mem) (pop F)) : l0F F mem k < g0F F mem k ∧ g0F F mem k < pop F ∧ mem (l0F F mem k) = true ∧ mem (g0F F mem k) = true ∧ cw F mem (pop F) (l0F F mem k) = g0F F mem k + 1 ∧ cw F mem (pop F) (g0F F mem k) = l0F F mem k + 1 := by
  obtain ⟨k1, k2, k3⟩ := kth_spec hk
  have k2 : l0F F mem k + 1 < cw F mem (pop F) (l0F F mem k) := of_decide_eq_true k2
  obtain ⟨a1, a2, a3, a4, a5, a6, a7⟩ := cw_inv (F := F) (mem := mem) (pop F) (Nat.le_refl _) (l0F F mem k) (g0F F mem k) (by unfold g0F; omega)
  refine ⟨by unfold g0F; omega, a2, a3, a4, by unfold g0F; omega, a5⟩
noncomputable def KP (F0 : Nat) (m0 : Nat → Bool) (F1 : Nat) : Nat := if fb_ct (lsr F0 m0) (pop F0) < fb_ct (lsr F1 (fun _ => true)) (pop F1) then fb_ct (lsr F0 m0) (pop F0) else fb_ct (lsr F1 (fun _ => true)) (pop F1)
noncomputable def prK (F0 : Nat) (B : Nat → Int32) (F1 : Nat) (base : Nat → Int32) : Nat → (Nat → Int32) := prR B (l0F F0 (isB B)) (g0F F0 (isB B)) (l0F F1 (fun _ => true)) (g0F F1 (fun _ => true)) base
noncomputable def ldK (F0 : Nat) (B : Nat → Int32) : Nat → (Nat → Bool) := ldR (l0F F0 (isB B)) (g0F F0 (isB B))
noncomputable def hPr (F0 : Nat) (B : Nat → Int32) (F1 : Nat) (i : Nat) (s : Nat × (Nat → Int32)) : Nat × (Nat → Int32) := if ldK F0 B (KP F0 (isB B) F1) i = true then s else rstE B (pop F1) i s
noncomputable def prs (F0 : Nat) (B : Nat → Int32) (F1 : Nat) (base : Nat → Int32) (i : Nat) : Nat × (Nat → Int32) := fB (fun b s => if isB B b = true then hPr F0 B F1 b s else s) i (0, prK F0 B F1 base (KP F0 (isB B) F1))
theorem fB_inv {S : Type} {g : Nat → S → S} {Q : S → Prop} (h : ∀ b s, Q s → Q (g b s)) : ∀ m s, Q s → Q (fB g m s)
  | 0, _, q => q
  | m + 1, s, q => h _ _ (fB_inv h m s q)
theorem hPr_le {F0 F1 i : Nat} {B : Nat → Int32} {s : Nat × (Nat → Int32)} (h : s.1 ≤ pop F1) : (hPr F0 B F1 i s).1 ≤ pop F1 := by
  unfold hPr
  split
  · exact h
  · exact (nxE_ge h).2
/-! ===== the class ===== -/
theorem c_pairs3 {X : Nat × (Nat → Int32)} {d : Nat} {I : Nat → Nat → Int32} {J : Nat → Nat → Int64} {F0 F1 us : Nat} {B : Nat → Int32} {base : Nat → Int32} {v1 v2 : Int32} (h24 : pop F0 ≤ 24) (h24' : pop F1 ≤ 24) (hB : ∀ i, i < 24 → I 142 i = B i) (c0 : I 141 1 = nI (pop F0)) (c1 : I 145 1 = nI (pop F1)) (hus : us < 2 ^ 24) (hld : ∀ i, i < pop F0 → us.testBit i = ldK F0 B (KP F0 (isB B) F1) i) :
    ∀ u5 : Value, Ev X d 17 5 [.ref 140, .int v1, .int v2, .int (nI us), .int (nI 0), .int (nI 0)] [] (mk (va_up I 146 (prK F0 B F1 base (KP F0 (isB B) F1))) J) (none, mk (va_up I 146 (prs F0 B F1 base (pop F0)).2) J) := by
  intro _
  have le : ∀ i, (prs F0 B F1 base i).1 ≤ pop F1 := fun i => fB_inv (S := Nat × (Nat → Int32)) (Q := fun s => s.1 ≤ pop F1) (fun b s q => by split; exact hPr_le q; exact q) i _ (Nat.zero_le _)
  refine lpI (n := pop F0) (P := fun i => Ev X d 17 5 [.ref 140, .int v1, .int v2, .int (nI us), .int (nI (prs F0 B F1 base i).1), .int (nI i)] [] (mk (va_up I 146 (prs F0 B F1 base i).2) J) (none, mk (va_up I 146 (prs F0 B F1 base (pop F0)).2) J)) ?_ ?_ (fun Q => Q)
  · rw [U_17_5]
    simp (disch := first | omega | assumption | exact rfl) only [U_17_15, XX, QQ, WW, KK, QX, SHs, RRs, Nat.reduceAdd, Nat.reduceMul, Nat.reduceLeDiff, Nat.reduceEqDiff, List.length_cons, List.length_nil, decide_true, decide_false, Bool.true_and, Bool.and_true, Bool.false_and, Bool.and_false, false_and, and_false, Bool.false_eq_true, Bool.true_eq_false, reduceCtorEq, eq_self, if_true, if_false, true_and, and_true, not_true_eq_false, not_false_eq_true, if_pos, if_neg, z_ite_not, false_or, or_false, true_or, or_true, SWs, swk_0, swk_1, c0]
  · intro i hi ih
    have i24 : i < 24 := by omega
    have hB := hB i i24
    have ps : prs F0 B F1 base (i + 1) = if isB B i = true then hPr F0 B F1 i (prs F0 B F1 base i) else prs F0 B F1 base i := rfl
    have li := le i
    obtain ⟨s, es⟩ : ∃ s, s = prs F0 B F1 base i := ⟨_, rfl⟩
    rw [← es] at ps li ⊢
    have ui := hld i hi
    rw [U_17_5]
    by_cases z : B i = -1
    · rw [ps, if_neg (by simp [isB, z])] at ih
      simp (disch := first | omega | assumption | exact rfl) only [U_17_6, U_17_14, XX, QQ, WW, KK, QX, SHs, RRs, Nat.reduceAdd, Nat.reduceMul, Nat.reduceLeDiff, Nat.reduceEqDiff, List.length_cons, List.length_nil, decide_true, decide_false, Bool.true_and, Bool.and_true, Bool.false_and, Bool.and_false, false_and, and_false, Bool.false_eq_true, Bool.true_eq_false, reduceCtorEq, eq_self, if_true, if_false, true_and, and_true, not_true_eq_false, not_false_eq_true, if_pos, if_neg, z_ite_not, false_or, or_false, true_or, or_true, SWs, swk_0, swk_1, c0, hB, z]
      exact ih
    · rw [ps, if_pos (by simp [isB, z])] at ih
      cases l : ldK F0 B (KP F0 (isB B) F1) i with
      | true =>
        rw [l] at ui
        unfold hPr at ih
        rw [if_pos l] at ih
        simp (disch := first | omega | assumption | exact rfl) only [U_17_6, U_17_7, U_17_8, U_17_14, XX, QQ, WW, KK, QX, SHs, RRs, Nat.reduceAdd, Nat.reduceMul, Nat.reduceLeDiff, Nat.reduceEqDiff, List.length_cons, List.length_nil, decide_true, decide_false, Bool.true_and, Bool.and_true, Bool.false_and, Bool.and_false, false_and, and_false, Bool.false_eq_true, Bool.true_eq_false, reduceCtorEq, eq_self, if_true, if_false, true_and, and_true, not_true_eq_false, not_false_eq_true, if_pos, if_neg, z_ite_not, false_or, or_false, true_or, or_true, SWs, swk_0, swk_1, c0, hB, z, ui]
        exact ih
      | false =>
        rw [l] at ui
        unfold hPr at ih
        rw [if_neg (by rw [l]; decide)] at ih
        obtain ⟨ge, le'⟩ := nxE_ge li
        obtain ⟨x, ex⟩ : ∃ x, x = nxE (pop F1) s := ⟨_, rfl⟩
        unfold rstE at ih
        have no := fun k h1 h2 => nxE_no (N := pop F1) (k := k) (s := s) h1 h2
        have yes := nxE_yes (N := pop F1) (s := s)
        rw [← ex] at ih ge le' no yes
        obtain ⟨c, f⟩ := s
        dsimp only at *
        have lp : Ev X d 17 9 [.ref 140, .int v1, .int v2, .int (nI us), .int (nI c), .int (nI i)] [] (mk (va_up I 146 f) J) (none, mk (va_up I 146 (prs F0 B F1 base (pop F0)).2) J) := by
          refine lpd (n := x) (P := fun k => c ≤ k → Ev X d 17 9 [.ref 140, .int v1, .int v2, .int (nI us), .int (nI k), .int (nI i)] [] (mk (va_up I 146 f) J) (none, mk (va_up I 146 (prs F0 B F1 base (pop F0)).2) J)) ?_ ?_ c ge (Nat.le_refl _)
          · intro _
            rw [U_17_9]
            rcases Nat.lt_or_ge x (pop F1) with q | q
            · rw [if_pos q] at ih
              have x24 : x < 24 := by omega
              have y := yes q
              simp (disch := first | omega | assumption | exact rfl) only [U_17_10, U_17_12, U_17_13, U_17_14, XX, QQ, WW, KK, QX, SHs, RRs, Nat.reduceAdd, Nat.reduceMul, Nat.reduceLeDiff, Nat.reduceEqDiff, List.length_cons, List.length_nil, decide_true, decide_false, Bool.true_and, Bool.and_true, Bool.false_and, Bool.and_false, false_and, and_false, Bool.false_eq_true, Bool.true_eq_false, reduceCtorEq, eq_self, if_true, if_false, true_and, and_true, not_true_eq_false, not_false_eq_true, if_pos, if_neg, z_ite_not, false_or, or_false, true_or, or_true, SWs, swk_0, swk_1, c1, y, hB]
              exact ih
            · have q' : x = pop F1 := by omega
              rw [if_neg (by omega)] at ih
              rw [q'] at ih ⊢
              simp (disch := first | omega | assumption | exact rfl) only [U_17_12, U_17_14, XX, QQ, WW, KK, QX, SHs, RRs, Nat.reduceAdd, Nat.reduceMul, Nat.reduceLeDiff, Nat.reduceEqDiff, List.length_cons, List.length_nil, decide_true, decide_false, Bool.true_and, Bool.and_true, Bool.false_and, Bool.and_false, false_and, and_false, Bool.false_eq_true, Bool.true_eq_false, reduceCtorEq, eq_self, if_true, if_false, true_and, and_true, not_true_eq_false, not_false_eq_true, if_pos, if_neg, z_ite_not, false_or, or_false, true_or, or_true, SWs, swk_0, swk_1, c1]
              exact ih
          · intro k hk IH ck
            have IH := IH (by omega)
            have k24 : k < 24 := by omega
            have kN : k < pop F1 := by omega
            have y := no k ck hk
            rw [U_17_9]
            simp (disch := first | omega | assumption | exact rfl) only [U_17_10, U_17_11, XX, QQ, WW, KK, QX, SHs, RRs, Nat.reduceAdd, Nat.reduceMul, Nat.reduceLeDiff, Nat.reduceEqDiff, List.length_cons, List.length_nil, decide_true, decide_false, Bool.true_and, Bool.and_true, Bool.false_and, Bool.and_false, false_and, and_false, Bool.false_eq_true, Bool.true_eq_false, reduceCtorEq, eq_self, if_true, if_false, true_and, and_true, not_true_eq_false, not_false_eq_true, if_pos, if_neg, z_ite_not, false_or, or_false, true_or, or_true, SWs, swk_0, swk_1, c1, y]
            exact IH
        simp (disch := first | omega | assumption | exact rfl) only [U_17_6, U_17_7, XX, QQ, WW, KK, QX, SHs, RRs, Nat.reduceAdd, Nat.reduceMul, Nat.reduceLeDiff, Nat.reduceEqDiff, List.length_cons, List.length_nil, decide_true, decide_false, Bool.true_and, Bool.and_true, Bool.false_and, Bool.and_false, false_and, and_false, Bool.false_eq_true, Bool.true_eq_false, reduceCtorEq, eq_self, if_true, if_false, true_and, and_true, not_true_eq_false, not_false_eq_true, if_pos, if_neg, z_ite_not, false_or, or_false, true_or, or_true, SWs, swk_0, swk_1, c0, hB, z, ui]
        exact lp
