/-! ===== a sum: class and reference ===== -/
section SUM
variable {X : Nat × (Nat → Int32)} {tp : Nat → Nat} {tl m : Nat}
theorem ak_c {q : Nat × Nat} {l : List (Nat × Nat)} {K K' : List Bool} (h : ak1 q K = some K') : ak (q :: l) K = ak l K' := by rw [ak, h]
theorem prodT : ∀ n m, tkT tp tl ≤ m + n → m ≤ tkT tp tl → (∃ k p, CpF X tp tl m k p ∧ RpF X tp tl m k p) ∨ ∃ m' S, m' ≤ tkT tp tl ∧ (segC S).length + m ≤ m' ∧ (∀ K : List Bool, K.length ≤ 22 → ak S (false :: K) = some (false :: K)) ∧ CpT X tp tl m m' S ∧ RpT X tp tl m m' S := by
  have base : ∀ m, m ≤ tkT tp tl → psK tp tl m ≠ 42 → psK tp tl m ≠ 47 → (∃ k p, CpF X tp tl m k p ∧ RpF X tp tl m k p) ∨ ∃ m' S, m' ≤ tkT tp tl ∧ (segC S).length + m ≤ m' ∧ (∀ K : List Bool, K.length ≤ 22 → ak S (false :: K) = some (false :: K)) ∧ CpT X tp tl m m' S ∧ RpT X tp tl m m' S := by
    intro m hm a b
    have kb := psK_b (tp := tp) (tl := tl) (m := m)
    refine .inr ⟨m, [], hm, by show 0 + m ≤ m; omega, fun K _ => rfl, fun d I J W wt u i hd h hw hi => ?_, fun d I J Q o u v hd h hq => ?_⟩
    · obtain ⟨k5, k6, k7⟩ := CPs_k h
      refine ⟨I, i, CFr_refl I, by rw [segC, List.append_nil]; exact h, hi, fun r H => ?_⟩
      rw [U_63_10]
      simp (disch := first | omega | assumption | exact rfl) only [U_63_11, XX, QQ, WW, KK, QX, SHs, RRs, Nat.reduceAdd, Nat.reduceMul, Nat.reduceLeDiff, Nat.reduceEqDiff, List.length_cons, List.length_nil, decide_true, decide_false, Bool.true_and, Bool.and_true, Bool.false_and, Bool.and_false, false_and, and_false, Bool.false_eq_true, Bool.true_eq_false, reduceCtorEq, eq_self, if_true, if_false, true_and, and_true, not_true_eq_false, not_false_eq_true, if_pos, if_neg, z_ite_not, false_or, or_false, true_or, or_true, SWs, swk_0, swk_1, k5, a, b]
      exact H
    · obtain ⟨k5, k6, k7⟩ := RPs_k h
      obtain ⟨g1, g2, g3, g4, g5⟩ := rq_1 _ kb
      have g6 := (rq_4 _ kb).2.2.2.2
      have z1 : ¬ rtk false (psK tp tl m) = 142 := fun z => a (g3.mp z)
      have z2 : ¬ rtk false (psK tp tl m) = 147 := fun z => b (g4.mp z)
      refine ⟨I, RFr_refl I, by rw [List.append_nil]; exact h, ?_⟩
      rw [U_175_2]
      simp (disch := first | omega | assumption | exact rfl) only [U_175_3, U_175_15, XX, QQ, WW, KK, QX, SHs, RRs, Nat.reduceAdd, Nat.reduceMul, Nat.reduceLeDiff, Nat.reduceEqDiff, List.length_cons, List.length_nil, decide_true, decide_false, Bool.true_and, Bool.and_true, Bool.false_and, Bool.and_false, false_and, and_false, Bool.false_eq_true, Bool.true_eq_false, reduceCtorEq, eq_self, if_true, if_false, true_and, and_true, not_true_eq_false, not_false_eq_true, if_pos, if_neg, z_ite_not, false_or, or_false, true_or, or_true, SWs, swk_0, swk_1, k5, z1, z2]
  intro n
  induction n with
  | zero =>
    intro m h1 h2
    have e : m = tkT tp tl := by omega
    have k0 : psK tp tl m = 0 := by rw [e]; exact psK_T
    exact base m h2 (by omega) (by omega)
  | succ n ih =>
    intro m h1 h2
    by_cases a : psK tp tl m = 42
    · have hm := psK_lt h2 (by omega)
      rcases unit_ X tp tl (m + 1) with ⟨u, v⟩ | ⟨q, x, n0, hs, u, v, hak⟩
      · exact .inl ⟨1, _, cp_fail (.inl ⟨rfl, rfl⟩) a u, rp_timesF a v⟩
      · have hm2 := psK_lt (by omega) n0
        have hS : segC [q, (8, 0)] = [x, -(nI 42)] := by
          rw [show [q, (8, 0)] = [q] ++ [((8 : Nat), (0 : Nat))] from rfl, segC_app, hs]; rfl
        have cs := cp_step (X := X) (.inl ⟨rfl, rfl⟩) a u hS
        have rs := rp_times (X := X) a v
        have l1 : (segC [q, (8, 0)]).length + m ≤ m + 2 := by rw [hS]; show 2 + m ≤ m + 2; omega
        have l2 : [q, ((8 : Nat), (0 : Nat))].length + m ≤ m + 2 := by show 2 + m ≤ m + 2; omega
        rcases ih (m + 2) (by omega) (by omega) with ⟨k, p, c1, c2⟩ | ⟨m', S, c1, c2, c3, c4, c5⟩
        · exact .inl ⟨k, p, CpF_c cs l1 c1, RpF_c rs l2 c2⟩
        · refine .inr ⟨m', _, c1, ?_, fun K hK => ?_, CpT_c cs l1 c4, RpT_c rs l2 c5⟩
          · rw [segC_app, List.length_append]; omega
          · rw [List.cons_append, List.cons_append, List.nil_append, ak_c (hak (false :: K) (by rw [List.length_cons]; omega)), ak_c (K' := false :: K) rfl]
            exact c3 K hK
    · by_cases b : psK tp tl m = 47
      · have hm := psK_lt h2 (by omega)
        by_cases k2 : psK tp tl (m + 1) = 2
        · have hm2 := psK_lt (tp := tp) (tl := tl) (m := m + 1) (by omega) (by omega)
          by_cases vz : psV tp tl (m + 1) = 0
          · exact .inl ⟨2, _, cp_fail (.inr ⟨rfl, rfl⟩) b (fun d I J W hd h => c_unitZ hd h k2 vz), rp_partF b (.inr ⟨k2, vz, rfl⟩)⟩
          · have vb := psV_b (tp := tp) (tl := tl) (m := m + 1)
            have cs := cp_step (X := X) (.inr ⟨rfl, rfl⟩) b (fun d I J W hd h hw => c_unitN hd h hw k2 (fun _ => vz)) (S0 := [(9, psV tp tl (m + 1))]) rfl
            have rs := rp_part (X := X) b k2 vz
            have l1 : (segC [(9, psV tp tl (m + 1))]).length + m ≤ m + 2 := by show 2 + m ≤ m + 2; omega
            have l2 : [((9 : Nat), psV tp tl (m + 1))].length + m ≤ m + 2 := by show 1 + m ≤ m + 2; omega
            rcases ih (m + 2) (by omega) (by omega) with ⟨k, p, c1, c2⟩ | ⟨m', S, c1, c2, c3, c4, c5⟩
            · exact .inl ⟨k, p, CpF_c cs l1 c1, RpF_c rs l2 c2⟩
            · refine .inr ⟨m', _, c1, ?_, fun K hK => ?_, CpT_c cs l1 c4, RpT_c rs l2 c5⟩
              · rw [segC_app, List.length_append]; omega
              · have e1 : ak1 (9, psV tp tl (m + 1)) (false :: K) = some (false :: K) := by
                  unfold ak1
                  rw [if_neg (show ¬ (9 : Nat) < 6 by decide), if_pos rfl]
                  show (if K.length < 30 ∧ psV tp tl (m + 1) ≤ 9999 ∧ 0 < psV tp tl (m + 1) then some (false :: K) else none) = _
                  rw [if_pos ⟨by omega, vb, by omega⟩]
                rw [List.cons_append, List.nil_append, ak_c e1]
                exact c3 K hK
        · exact .inl ⟨1, _, cp_fail (.inr ⟨rfl, rfl⟩) b (fun d I J W hd h => c_unitF hd h k2 (.inl rfl)), rp_partF b (.inl ⟨k2, rfl⟩)⟩
      · exact base m h2 a b
/-! what a call may come to -/
def COk (X : Nat × (Nat → Int32)) (dd mi : Nat) (args : List Value) (tp : Nat → Nat) (tl m m' : Nat) (S : List (Nat × Nat)) : Prop := ∀ (d : Nat) (I : Nat → Nat → Int32) (J : Nat → Nat → Int64) (W : List Int32), dd ≤ d → CPs I tp tl m W → W.length ≤ m → ∃ I', callF X d mi args (mk I J) = some (some (.int (nI 1)), mk I' J) ∧ CFr I I' ∧ CPs I' tp tl m' (W ++ segC S)
def CNo (X : Nat × (Nat → Int32)) (dd mi : Nat) (args : List Value) (tp : Nat → Nat) (tl m k p : Nat) : Prop := ∀ (d : Nat) (I : Nat → Nat → Int32) (J : Nat → Nat → Int64) (W : List Int32), dd ≤ d → CPs I tp tl m W → W.length ≤ m → ∃ I', callF X d mi args (mk I J) = some (some (.int (nI 0)), mk I' J) ∧ CGl I I' k p
def ROk (X : Nat × (Nat → Int32)) (dd mi : Nat) (tp : Nat → Nat) (tl m o m' : Nat) (S : List (Nat × Nat)) : Prop := ∀ (d : Nat) (I : Nat → Nat → Int32) (J : Nat → Nat → Int64) (Q : List (Nat × Nat)), dd ≤ d → RPs I tp tl m Q o → Q.length ≤ m → ∃ I', callF X d mi [.ref 177] (mk I J) = some (some (.int (nI 1)), mk I' J) ∧ RFr I I' ∧ RPs I' tp tl m' (Q ++ S) o
def RNo (X : Nat × (Nat → Int32)) (dd mi : Nat) (tp : Nat → Nat) (tl m o k p : Nat) : Prop := ∀ (d : Nat) (I : Nat → Nat → Int32) (J : Nat → Nat → Int64) (Q : List (Nat × Nat)), dd ≤ d → RPs I tp tl m Q o → Q.length ≤ m → ∃ I', callF X d mi [.ref 177] (mk I J) = some (some (.int (nI 0)), mk I' J) ∧ RFl I I' k p
def Outc (X : Nat × (Nat → Int32)) (dc mc : Nat) (args : List Value) (dr mr : Nat) (tp : Nat → Nat) (tl m o h : Nat) (b : Bool) : Prop := (∃ k p, CNo X dc mc args tp tl m k p ∧ RNo X dr mr tp tl m o k p) ∨ ∃ m' S, m' ≤ tkT tp tl ∧ m < m' ∧ (segC S).length + m ≤ m' ∧ (∀ K : List Bool, K.length ≤ h → ak S K = some (b :: K)) ∧ COk X dc mc args tp tl m m' S ∧ ROk X dr mr tp tl m o m' S
/-! a product from its start -/
def CaT (X : Nat × (Nat → Int32)) (tp : Nat → Nat) (tl m m2 : Nat) (S0 : List (Nat × Nat)) : Prop := ∀ (d : Nat) (I : Nat → Nat → Int32) (J : Nat → Nat → Int64) (W : List Int32) (wt : Int32) (b i : Nat), 2 ≤ d → (b = 0 ∨ b = 43 ∨ b = 45) → CPs I tp tl m W → W.length ≤ m → i ≤ m → ∃ I' i', CFr I I' ∧ CPs I' tp tl m2 (W ++ segC S0) ∧ i' ≤ m2 ∧ ∀ r, Ev X d 63 12 [.ref 124, .int wt, .int (nI (psK tp tl m2)), .int (nI i')] [] (mk I' J) r → Ev X d 63 2 [.ref 124, .int wt, .int (nI b), .int (nI i)] [] (mk I J) r
def CaF (X : Nat × (Nat → Int32)) (tp : Nat → Nat) (tl m k p : Nat) : Prop := ∀ (d : Nat) (I : Nat → Nat → Int32) (J : Nat → Nat → Int64) (W : List Int32) (wt : Int32) (b i : Nat), 2 ≤ d → (b = 0 ∨ b = 43 ∨ b = 45) → CPs I tp tl m W → W.length ≤ m → i ≤ m → ∃ I', CGl I I' k p ∧ Ev X d 63 2 [.ref 124, .int wt, .int (nI b), .int (nI i)] [] (mk I J) (some (.int (nI 0)), mk I' J)
theorem prodA (o : Nat) (h2 : m ≤ tkT tp tl) : (∃ k p, CaF X tp tl m k p ∧ RNo X 16 175 tp tl m o k p) ∨ ∃ m' S, m' ≤ tkT tp tl ∧ m < m' ∧ (segC S).length + m ≤ m' ∧ (∀ K : List Bool, K.length ≤ 22 → ak S K = some (false :: K)) ∧ CaT X tp tl m m' S ∧ ROk X 16 175 tp tl m o m' S := by
  rcases unit_ X tp tl m with ⟨u, v⟩ | ⟨q, x, n0, hs, u, v, hak⟩
  · refine .inl ⟨1, tpo tp tl m, fun d I J W wt b i hd hb h hw hi => ?_, fun d I J Q hd h hq => ?_⟩
    · obtain ⟨I1, e1, f1⟩ := u d I J W hd h
      refine ⟨I1, f1, ?_⟩
      have z1 : ¬ b = 47 := by omega
      have z2 : b < 46 := by omega
      rw [q_f] at e1
      simp (disch := first | omega | assumption | exact rfl) only [U_63_2, U_63_4, U_63_5, U_63_6, XX, QQ, WW, KK, QX, SHs, RRs, Nat.reduceAdd, Nat.reduceMul, Nat.reduceLeDiff, Nat.reduceEqDiff, List.length_cons, List.length_nil, decide_true, decide_false, Bool.true_and, Bool.and_true, Bool.false_and, Bool.and_false, false_and, and_false, Bool.false_eq_true, Bool.true_eq_false, reduceCtorEq, eq_self, if_true, if_false, true_and, and_true, not_true_eq_false, not_false_eq_true, if_pos, if_neg, z_ite_not, false_or, or_false, true_or, or_true, SWs, swk_0, swk_1, z1, e1]
    · obtain ⟨d, rfl⟩ : ∃ d', d = d' + 1 := ⟨d - 1, by omega⟩
      obtain ⟨I1, e1, f1⟩ := v d I J Q o (by omega) h
      refine ⟨I1, ?_, f1⟩
      refine callF_of (by decide) (Nat.le_of_ble_eq_true rfl) ?_
      show Ev X d 175 0 [.ref 177, .retAddr 0, .retAddr 0] [] ( mk I J) _
      simp (disch := first | omega | assumption | exact rfl) only [U_175_0, U_175_1, XX, QQ, WW, KK, QX, SHs, RRs, Nat.reduceAdd, Nat.reduceMul, Nat.reduceLeDiff, Nat.reduceEqDiff, List.length_cons, List.length_nil, decide_true, decide_false, Bool.true_and, Bool.and_true, Bool.false_and, Bool.and_false, false_and, and_false, Bool.false_eq_true, Bool.true_eq_false, reduceCtorEq, eq_self, if_true, if_false, true_and, and_true, not_true_eq_false, not_false_eq_true, if_pos, if_neg, z_ite_not, false_or, or_false, true_or, or_true, SWs, swk_0, swk_1, e1]
  · have hm := psK_lt h2 n0
    have l1 : (segC [q]).length = 1 := by rw [hs]; rfl
    have cst : ∀ (d : Nat) (I : Nat → Nat → Int32) (J : Nat → Nat → Int64) (W : List Int32) (wt : Int32) (b i : Nat), 2 ≤ d → (b = 0 ∨ b = 43 ∨ b = 45) → CPs I tp tl m W → W.length ≤ m → i ≤ m → ∃ I', CFr I I' ∧ CPs I' tp tl (m + 1) (W ++ segC [q]) ∧ ∀ r, Ev X d 63 10 [.ref 124, .int wt, .int (nI b), .int (nI i)] [] (mk I' J) r → Ev X d 63 2 [.ref 124, .int wt, .int (nI b), .int (nI i)] [] (mk I J) r := by
      intro d I J W wt b i hd hb h hw hi
      have t4 := T400 h
      obtain ⟨I1, e1, f1, s1⟩ := u d I J W hd h (by omega)
      rw [hs]
      refine ⟨I1, f1, s1, fun r H => ?_⟩
      have z1 : ¬ b = 47 := by omega
      have z2 : b < 46 := by omega
      have z3 : ¬ b = 42 := by omega
      rw [q_f] at e1
      simp (disch := first | omega | assumption | exact rfl) only [U_63_2, U_63_4, U_63_5, U_63_7, U_63_8, XX, QQ, WW, KK, QX, SHs, RRs, Nat.reduceAdd, Nat.reduceMul, Nat.reduceLeDiff, Nat.reduceEqDiff, List.length_cons, List.length_nil, decide_true, decide_false, Bool.true_and, Bool.and_true, Bool.false_and, Bool.and_false, false_and, and_false, Bool.false_eq_true, Bool.true_eq_false, reduceCtorEq, eq_self, if_true, if_false, true_and, and_true, not_true_eq_false, not_false_eq_true, if_pos, if_neg, z_ite_not, false_or, or_false, true_or, or_true, SWs, swk_0, swk_1, z1, z3, e1]
      exact H
    have rst : ∀ (d : Nat) (I : Nat → Nat → Int32) (J : Nat → Nat → Int64) (Q : List (Nat × Nat)), 15 ≤ d → RPs I tp tl m Q o → Q.length ≤ m → ∃ I', RFr I I' ∧ RPs I' tp tl (m + 1) (Q ++ [q]) o ∧ ∀ r, Ev X d 175 2 [.ref 177, .retAddr 0, .retAddr 0] [] (mk I' J) r → callF X (d + 1) 175 [.ref 177] (mk I J) = some r := by
      intro d I J Q hd h hq
      have t4 := RPs_l h
      obtain ⟨I1, e1, f1, s1⟩ := v d I J Q o hd h (by omega)
      refine ⟨I1, f1, s1, fun r H => ?_⟩
      refine callF_of (by decide) (Nat.le_of_ble_eq_true rfl) ?_
      show Ev X d 175 0 [.ref 177, .retAddr 0, .retAddr 0] [] ( mk I J) _
      simp (disch := first | omega | assumption | exact rfl) only [U_175_0, XX, QQ, WW, KK, QX, SHs, RRs, Nat.reduceAdd, Nat.reduceMul, Nat.reduceLeDiff, Nat.reduceEqDiff, List.length_cons, List.length_nil, decide_true, decide_false, Bool.true_and, Bool.and_true, Bool.false_and, Bool.and_false, false_and, and_false, Bool.false_eq_true, Bool.true_eq_false, reduceCtorEq, eq_self, if_true, if_false, true_and, and_true, not_true_eq_false, not_false_eq_true, if_pos, if_neg, z_ite_not, false_or, or_false, true_or, or_true, SWs, swk_0, swk_1, e1]
      exact H
    rcases prodT (X := X) (tp := tp) (tl := tl) (tkT tp tl) (m + 1) (by omega) (by omega) with ⟨k, p, c1, c2⟩ | ⟨m', S, c1, c2, c3, c4, c5⟩
    · refine .inl ⟨k, p, fun d I J W wt b i hd hb h hw hi => ?_, fun d I J Q hd h hq => ?_⟩
      · obtain ⟨I1, f1, s1, H1⟩ := cst d I J W wt b i hd hb h hw hi
        obtain ⟨I2, f2, H2⟩ := c1 d I1 J _ wt (nI b) i hd s1 (by rw [List.length_append]; omega) (by omega)
        exact ⟨I2, CGl_after f1 f2, H1 _ H2⟩
      · obtain ⟨d, rfl⟩ : ∃ d', d = d' + 1 := ⟨d - 1, by omega⟩
        obtain ⟨I1, f1, s1, H1⟩ := rst d I J Q (by omega) h hq
        obtain ⟨I2, f2, H2⟩ := c2 d I1 J _ o (.retAddr 0) (.retAddr 0) (by omega) s1 (by rw [List.length_append]; show Q.length + 1 ≤ _; omega)
        exact ⟨I2, H1 _ H2, RFl_after f1 f2⟩
    · refine .inr ⟨m', [q] ++ S, c1, by omega, ?_, fun K hK => ?_, fun d I J W wt b i hd hb h hw hi => ?_, fun d I J Q hd h hq => ?_⟩
      · rw [segC_app, List.length_append]; omega
      · rw [List.cons_append, List.nil_append, ak_c (hak K (by omega))]
        exact c3 K hK
      · obtain ⟨I1, f1, s1, H1⟩ := cst d I J W wt b i hd hb h hw hi
        obtain ⟨I2, i2, f2, s2, q2, H2⟩ := c4 d I1 J _ wt (nI b) i hd s1 (by rw [List.length_append]; omega) (by omega)
        rw [List.append_assoc, ← segC_app] at s2
        exact ⟨I2, i2, CFr_trans f1 f2, s2, q2, fun r H => H1 r (H2 r H)⟩
      · obtain ⟨d, rfl⟩ : ∃ d', d = d' + 1 := ⟨d - 1, by omega⟩
        obtain ⟨I1, f1, s1, H1⟩ := rst d I J Q (by omega) h hq
        obtain ⟨I2, f2, s2, H2⟩ := c5 d I1 J _ o (.retAddr 0) (.retAddr 0) (by omega) s1 (by rw [List.length_append]; show Q.length + 1 ≤ _; omega)
        rw [List.append_assoc] at s2
        exact ⟨I2, H1 _ H2, RFr_trans f1 f2, s2⟩
end SUM
