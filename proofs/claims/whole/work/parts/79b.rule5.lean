/-! ===== a rule's condition: the reference ===== -/
section RUE
variable {X : Nat × (Nat → Int32)} {d : Nat} {I : Nat → Nat → Int32} {J : Nat → Nat → Int64} {k t pos : Nat} {fr : Int32} {S : List Int32} {v : Option Value} {vs : Nat → Int32}
def swf : List (Nat × Nat) → Nat → Nat → Nat
  | [], d, _ => d
  | q :: t, d, n => if n = q.1 then q.2 else swf t d n
theorem swk_f {d n : Nat} {L st : List Value} {m : Mem} (hn : n < 2 ^ 31) : ∀ (t : List (Nat × Nat)), (∀ q, q ∈ t → q.1 < 2 ^ 31) → swk t d (nI n) L st m = some (.inr (swf t d n, L, st, m))
  | [], _ => rfl
  | q :: t, h => by
    rw [swk_1, swf]
    by_cases z : n = q.1
    · rw [if_pos z, if_pos (congrArg nI z)]
    · rw [if_neg z, if_neg (fun y => z (nI_inj (by omega) (by have := h q (List.mem_cons_self ..); omega) y))]
      exact swk_f hn t (fun q' hq => h q' (List.mem_cons_of_mem _ hq))
theorem sw7k {d n : Nat} {L st : List Value} {m : Mem} (hn : n < 2 ^ 31) : swk (swt 7) d (nI n) L st m = some (.inr (swf (swt 7) d n, L, st, m)) := swk_f hn _ (by rw [sw7]; decide)
theorem r_both6 {x y : Int32} (hd : 1 ≤ d) (M : Mem) : callF X d 187 [.int (nI 6), .int x, .int y] M = some (some (.int (x + y)), M) := by
  refine callF_at (by omega) (by decide) (Nat.le_of_ble_eq_true rfl) (fun d _ => ?_)
  show Ev X d 187 0 [.int (nI 6), .int x, .int y] [] M (some (.int (x + y)), M)
  have k : ∀ (L st : List Value) (m : Mem), swk (swt 7) 17 (nI 6) L st m = some (.inr (1, L, st, m)) := fun L st m => sw7k (by decide)
  simp (disch := first | omega | assumption | exact rfl) only [U_187_0, U_187_1, XX, QQ, WW, KK, QX, SHs, RRs, Nat.reduceAdd, Nat.reduceMul, Nat.reduceLeDiff, Nat.reduceEqDiff, List.length_cons, List.length_nil, decide_true, decide_false, Bool.true_and, Bool.and_true, Bool.false_and, Bool.and_false, false_and, and_false, Bool.false_eq_true, Bool.true_eq_false, reduceCtorEq, eq_self, if_true, if_false, true_and, and_true, not_true_eq_false, not_false_eq_true, if_pos, if_neg, z_ite_not, false_or, or_false, true_or, or_true, SWs, swk_0, swk_1, k]
theorem r_both7 {x y : Int32} (hd : 1 ≤ d) (M : Mem) : callF X d 187 [.int (nI 7), .int x, .int y] M = some (some (.int (x - y)), M) := by
  refine callF_at (by omega) (by decide) (Nat.le_of_ble_eq_true rfl) (fun d _ => ?_)
  show Ev X d 187 0 [.int (nI 7), .int x, .int y] [] M (some (.int (x - y)), M)
  have k : ∀ (L st : List Value) (m : Mem), swk (swt 7) 17 (nI 7) L st m = some (.inr (2, L, st, m)) := fun L st m => sw7k (by decide)
  simp (disch := first | omega | assumption | exact rfl) only [U_187_0, U_187_2, XX, QQ, WW, KK, QX, SHs, RRs, Nat.reduceAdd, Nat.reduceMul, Nat.reduceLeDiff, Nat.reduceEqDiff, List.length_cons, List.length_nil, decide_true, decide_false, Bool.true_and, Bool.and_true, Bool.false_and, Bool.and_false, false_and, and_false, Bool.false_eq_true, Bool.true_eq_false, reduceCtorEq, eq_self, if_true, if_false, true_and, and_true, not_true_eq_false, not_false_eq_true, if_pos, if_neg, z_ite_not, false_or, or_false, true_or, or_true, SWs, swk_0, swk_1, k]
theorem r_both8 {x y : Int32} (hd : 1 ≤ d) (M : Mem) : callF X d 187 [.int (nI 8), .int x, .int y] M = some (some (.int (x * y)), M) := by
  refine callF_at (by omega) (by decide) (Nat.le_of_ble_eq_true rfl) (fun d _ => ?_)
  show Ev X d 187 0 [.int (nI 8), .int x, .int y] [] M (some (.int (x * y)), M)
  have k : ∀ (L st : List Value) (m : Mem), swk (swt 7) 17 (nI 8) L st m = some (.inr (3, L, st, m)) := fun L st m => sw7k (by decide)
  simp (disch := first | omega | assumption | exact rfl) only [U_187_0, U_187_3, XX, QQ, WW, KK, QX, SHs, RRs, Nat.reduceAdd, Nat.reduceMul, Nat.reduceLeDiff, Nat.reduceEqDiff, List.length_cons, List.length_nil, decide_true, decide_false, Bool.true_and, Bool.and_true, Bool.false_and, Bool.and_false, false_and, and_false, Bool.false_eq_true, Bool.true_eq_false, reduceCtorEq, eq_self, if_true, if_false, true_and, and_true, not_true_eq_false, not_false_eq_true, if_pos, if_neg, z_ite_not, false_or, or_false, true_or, or_true, SWs, swk_0, swk_1, k]
theorem r_both10 {x y : Int32} (hd : 1 ≤ d) (M : Mem) : callF X d 187 [.int (nI 10), .int x, .int y] M = some (some (.int (bI (decide (x < y)))), M) := by
  refine callF_at (by omega) (by decide) (Nat.le_of_ble_eq_true rfl) (fun d _ => ?_)
  show Ev X d 187 0 [.int (nI 10), .int x, .int y] [] M (some (.int (bI (decide (x < y)))), M)
  have k : ∀ (L st : List Value) (m : Mem), swk (swt 7) 17 (nI 10) L st m = some (.inr (4, L, st, m)) := fun L st m => sw7k (by decide)
  by_cases z : x < y
  · have z2 := (fa_of_lt z).2.1
    simp (disch := first | omega | assumption | exact rfl) only [U_187_0, U_187_4, U_187_5, U_187_6, U_187_7, XX, QQ, WW, KK, QX, SHs, RRs, Nat.reduceAdd, Nat.reduceMul, Nat.reduceLeDiff, Nat.reduceEqDiff, List.length_cons, List.length_nil, decide_true, decide_false, Bool.true_and, Bool.and_true, Bool.false_and, Bool.and_false, false_and, and_false, Bool.false_eq_true, Bool.true_eq_false, reduceCtorEq, eq_self, if_true, if_false, true_and, and_true, not_true_eq_false, not_false_eq_true, if_pos, if_neg, z_ite_not, false_or, or_false, true_or, or_true, SWs, swk_0, swk_1, k, z, z2]
  · have z2 : y ≤ x := Int32.not_lt.mp z
    simp (disch := first | omega | assumption | exact rfl) only [U_187_0, U_187_4, U_187_5, U_187_6, U_187_7, XX, QQ, WW, KK, QX, SHs, RRs, Nat.reduceAdd, Nat.reduceMul, Nat.reduceLeDiff, Nat.reduceEqDiff, List.length_cons, List.length_nil, decide_true, decide_false, Bool.true_and, Bool.and_true, Bool.false_and, Bool.and_false, false_and, and_false, Bool.false_eq_true, Bool.true_eq_false, reduceCtorEq, eq_self, if_true, if_false, true_and, and_true, not_true_eq_false, not_false_eq_true, if_pos, if_neg, z_ite_not, false_or, or_false, true_or, or_true, SWs, swk_0, swk_1, k, z, z2]
theorem r_both11 {x y : Int32} (hd : 1 ≤ d) (M : Mem) : callF X d 187 [.int (nI 11), .int x, .int y] M = some (some (.int (bI (decide (x = y)))), M) := by
  refine callF_at (by omega) (by decide) (Nat.le_of_ble_eq_true rfl) (fun d _ => ?_)
  show Ev X d 187 0 [.int (nI 11), .int x, .int y] [] M (some (.int (bI (decide (x = y)))), M)
  have k : ∀ (L st : List Value) (m : Mem), swk (swt 7) 17 (nI 11) L st m = some (.inr (8, L, st, m)) := fun L st m => sw7k (by decide)
  by_cases z : x = y
  · simp (disch := first | omega | assumption | exact rfl) only [U_187_0, U_187_8, U_187_9, U_187_10, U_187_11, XX, QQ, WW, KK, QX, SHs, RRs, Nat.reduceAdd, Nat.reduceMul, Nat.reduceLeDiff, Nat.reduceEqDiff, List.length_cons, List.length_nil, decide_true, decide_false, Bool.true_and, Bool.and_true, Bool.false_and, Bool.and_false, false_and, and_false, Bool.false_eq_true, Bool.true_eq_false, reduceCtorEq, eq_self, if_true, if_false, true_and, and_true, not_true_eq_false, not_false_eq_true, if_pos, if_neg, z_ite_not, false_or, or_false, true_or, or_true, SWs, swk_0, swk_1, k, z]
  · simp (disch := first | omega | assumption | exact rfl) only [U_187_0, U_187_8, U_187_9, U_187_10, U_187_11, XX, QQ, WW, KK, QX, SHs, RRs, Nat.reduceAdd, Nat.reduceMul, Nat.reduceLeDiff, Nat.reduceEqDiff, List.length_cons, List.length_nil, decide_true, decide_false, Bool.true_and, Bool.and_true, Bool.false_and, Bool.and_false, false_and, and_false, Bool.false_eq_true, Bool.true_eq_false, reduceCtorEq, eq_self, if_true, if_false, true_and, and_true, not_true_eq_false, not_false_eq_true, if_pos, if_neg, z_ite_not, false_or, or_false, true_or, or_true, SWs, swk_0, swk_1, k, z]
theorem r_both12 {x y : Int32} (hd : 1 ≤ d) (M : Mem) : callF X d 187 [.int (nI 12), .int x, .int y] M = some (some (.int (bI (decide (y < x)))), M) := by
  refine callF_at (by omega) (by decide) (Nat.le_of_ble_eq_true rfl) (fun d _ => ?_)
  show Ev X d 187 0 [.int (nI 12), .int x, .int y] [] M (some (.int (bI (decide (y < x)))), M)
  have k : ∀ (L st : List Value) (m : Mem), swk (swt 7) 17 (nI 12) L st m = some (.inr (12, L, st, m)) := fun L st m => sw7k (by decide)
  by_cases z : y < x
  · have z2 := (fa_of_lt z).2.1
    simp (disch := first | omega | assumption | exact rfl) only [U_187_0, U_187_12, U_187_13, U_187_14, U_187_15, XX, QQ, WW, KK, QX, SHs, RRs, Nat.reduceAdd, Nat.reduceMul, Nat.reduceLeDiff, Nat.reduceEqDiff, List.length_cons, List.length_nil, decide_true, decide_false, Bool.true_and, Bool.and_true, Bool.false_and, Bool.and_false, false_and, and_false, Bool.false_eq_true, Bool.true_eq_false, reduceCtorEq, eq_self, if_true, if_false, true_and, and_true, not_true_eq_false, not_false_eq_true, if_pos, if_neg, z_ite_not, false_or, or_false, true_or, or_true, SWs, swk_0, swk_1, k, z, z2]
  · have z2 : x ≤ y := Int32.not_lt.mp z
    simp (disch := first | omega | assumption | exact rfl) only [U_187_0, U_187_12, U_187_13, U_187_14, U_187_15, XX, QQ, WW, KK, QX, SHs, RRs, Nat.reduceAdd, Nat.reduceMul, Nat.reduceLeDiff, Nat.reduceEqDiff, List.length_cons, List.length_nil, decide_true, decide_false, Bool.true_and, Bool.and_true, Bool.false_and, Bool.and_false, false_and, and_false, Bool.false_eq_true, Bool.true_eq_false, reduceCtorEq, eq_self, if_true, if_false, true_and, and_true, not_true_eq_false, not_false_eq_true, if_pos, if_neg, z_ite_not, false_or, or_false, true_or, or_true, SWs, swk_0, swk_1, k, z, z2]
theorem r_both14 {x y : Int32} (hd : 1 ≤ d) (M : Mem) : callF X d 187 [.int (nI 14), .int x, .int y] M = some (some (.int (x &&& y)), M) := by
  refine callF_at (by omega) (by decide) (Nat.le_of_ble_eq_true rfl) (fun d _ => ?_)
  show Ev X d 187 0 [.int (nI 14), .int x, .int y] [] M (some (.int (x &&& y)), M)
  have k : ∀ (L st : List Value) (m : Mem), swk (swt 7) 17 (nI 14) L st m = some (.inr (16, L, st, m)) := fun L st m => sw7k (by decide)
  simp (disch := first | omega | assumption | exact rfl) only [U_187_0, U_187_16, XX, QQ, WW, KK, QX, SHs, RRs, Nat.reduceAdd, Nat.reduceMul, Nat.reduceLeDiff, Nat.reduceEqDiff, List.length_cons, List.length_nil, decide_true, decide_false, Bool.true_and, Bool.and_true, Bool.false_and, Bool.and_false, false_and, and_false, Bool.false_eq_true, Bool.true_eq_false, reduceCtorEq, eq_self, if_true, if_false, true_and, and_true, not_true_eq_false, not_false_eq_true, if_pos, if_neg, z_ite_not, false_or, or_false, true_or, or_true, SWs, swk_0, swk_1, k]
theorem r_both15 {x y : Int32} (hd : 1 ≤ d) (M : Mem) : callF X d 187 [.int (nI 15), .int x, .int y] M = some (some (.int (x ||| y)), M) := by
  refine callF_at (by omega) (by decide) (Nat.le_of_ble_eq_true rfl) (fun d _ => ?_)
  show Ev X d 187 0 [.int (nI 15), .int x, .int y] [] M (some (.int (x ||| y)), M)
  have k : ∀ (L st : List Value) (m : Mem), swk (swt 7) 17 (nI 15) L st m = some (.inr (17, L, st, m)) := fun L st m => sw7k (by decide)
  simp (disch := first | omega | assumption | exact rfl) only [U_187_0, U_187_17, XX, QQ, WW, KK, QX, SHs, RRs, Nat.reduceAdd, Nat.reduceMul, Nat.reduceLeDiff, Nat.reduceEqDiff, List.length_cons, List.length_nil, decide_true, decide_false, Bool.true_and, Bool.and_true, Bool.false_and, Bool.and_false, false_and, and_false, Bool.false_eq_true, Bool.true_eq_false, reduceCtorEq, eq_self, if_true, if_false, true_and, and_true, not_true_eq_false, not_false_eq_true, if_pos, if_neg, z_ite_not, false_or, or_false, true_or, or_true, SWs, swk_0, swk_1, k]
theorem r_both {op : Nat} {x y : Int32} (hd : 1 ≤ d) (M : Mem) (h : op = 6 ∨ op = 7 ∨ op = 8 ∨ op = 10 ∨ op = 11 ∨ op = 12 ∨ op = 14 ∨ op = 15) : callF X d 187 [.int (nI op), .int x, .int y] M = some (some (.int (boF op x y)), M) := by
  rcases h with rfl | rfl | rfl | rfl | rfl | rfl | rfl | rfl
  · exact r_both6 hd M
  · exact r_both7 hd M
  · exact r_both8 hd M
  · exact r_both10 hd M
  · exact r_both11 hd M
  · exact r_both12 hd M
  · exact r_both14 hd M
  · exact r_both15 hd M
def At188 (X : Nat × (Nat → Int32)) (d : Nat) (I : Nat → Nat → Int32) (J : Nat → Nat → Int64) (k : Nat) (fr : Int32) (t pos : Nat) (S : List Int32) (v : Option Value) : Prop := ∀ f, stk f S → ∀ u6 u7 : Value, ∃ f', Ev X d 188 1 [.ref 177, .int (nI k), .int fr, .int (nI t), .int (nI S.length), .int (nI pos), u6, u7] [] (mk (va_up I 183 f) J) (v, mk (va_up I 183 f') J)
theorem stk_put {f : Nat → Int32} {S : List Int32} {x y : Int32} (h : stk f (y :: S)) : stk (va_up f S.length x) (x :: S) := stk_push (stk_top h).2
theorem r_seg (hd : 2 ≤ d) (hk3 : k < 3) (ht : t ≤ 409) (hv : ∀ o, o < 5 → I 184 (o + 1) = vs (o + 1)) : ∀ (l : List (Nat × Nat)) (K K' : List Bool) (S : List Int32) (pos : Nat), ak l K = some K' → okK K S → K.length ≤ 30 → stpAt (I 178) (4700 + 820 * k) pos l → pos + l.length ≤ t → At188 X d I J k fr t (pos + l.length) (evL vs l S) v → At188 X d I J k fr t pos S v
  | [], K, K', S, pos, _, _, _, _, _, hk => hk
  | q :: l, K, K', S, pos, ha, hS, hK, hg, hp, hk => by
    rw [ak] at ha
    rw [List.length_cons] at hp hk
    cases h1 : ak1 q K with
    | none => rw [h1] at ha; cases ha
    | some K1 =>
      rw [h1] at ha
      have g0 := hg 0 (Nat.succ_pos _)
      have g1 : I 178 (4700 + 820 * k + 2 * pos) = nI q.1 := g0.1
      have g2 : q.1 = 0 ∨ q.1 = 9 → I 178 (4700 + 820 * k + 2 * pos + 1) = nI q.2 := g0.2
      have gs : stpAt (I 178) (4700 + 820 * k) (pos + 1) l := fun j hj => by
        have := hg (j + 1) (by rw [List.length_cons]; omega)
        rw [List.getD_cons_succ, show pos + (j + 1) = pos + 1 + j by omega] at this
        exact this
      have hok := okK_s (vs := vs) h1 hS
      have hl := okK_len hS
      have nx : K1.length ≤ 30 → At188 X d I J k fr t (pos + 1) (evS vs q S) v := fun hK1 => r_seg hd hk3 ht hv l K1 K' (evS vs q S) (pos + 1) ha hok hK1 gs (by omega) (by rw [show pos + 1 + l.length = pos + (l.length + 1) by omega]; exact hk)
      obtain ⟨w, ew⟩ : ∃ w, w = I 178 (4700 + 820 * k + 2 * pos + 1) := ⟨_, rfl⟩
      rw [← ew] at g2
      have ew := ew.symm
      intro f hf u6 u7
      rcases ak1_c h1 with ⟨q1, q2, q3, rfl⟩ | ⟨q1, K2, rfl, q2, q3, q4, rfl⟩ | ⟨q1, K2, rfl, rfl⟩ | ⟨q1, K2, rfl, rfl⟩ | ⟨q1, K2, rfl, rfl⟩ | ⟨q1, K2, rfl, rfl⟩
      · have nx := nx (by rw [List.length_cons]; omega)
        by_cases z : q.1 = 0
        · have e2 : evS vs q S = nI q.2 :: S := by unfold evS; rw [if_pos z]
          rw [e2] at nx
          rw [g2 (.inl z)] at ew
          rw [z] at g1
          obtain ⟨f', hE⟩ := nx _ (stk_push hf) (.int (nI 0)) (.int (nI q.2))
          refine ⟨f', ?_⟩
          rw [List.length_cons] at hE
          rw [U_188_1]
          simp (disch := first | omega | assumption | exact rfl) only [U_188_2, U_188_3, U_188_4, U_188_6, U_188_12, XX, QQ, WW, KK, QX, SHs, RRs, Nat.reduceAdd, Nat.reduceMul, Nat.reduceLeDiff, Nat.reduceEqDiff, List.length_cons, List.length_nil, decide_true, decide_false, Bool.true_and, Bool.and_true, Bool.false_and, Bool.and_false, false_and, and_false, Bool.false_eq_true, Bool.true_eq_false, reduceCtorEq, eq_self, if_true, if_false, true_and, and_true, not_true_eq_false, not_false_eq_true, if_pos, if_neg, z_ite_not, false_or, or_false, true_or, or_true, SWs, swk_0, swk_1, g1, ew]
          exact hE
        · have e2 : evS vs q S = vs q.1 :: S := by unfold evS; rw [if_neg z, if_pos q1]
          rw [e2] at nx
          have hx := hv (q.1 - 1) (by omega)
          rw [show q.1 - 1 + 1 = q.1 by omega] at hx
          obtain ⟨f', hE⟩ := nx _ (stk_push hf) (.int (nI q.1)) (.int w)
          refine ⟨f', ?_⟩
          rw [List.length_cons] at hE
          rw [U_188_1]
          simp (disch := first | omega | assumption | exact rfl) only [U_188_2, U_188_3, U_188_5, U_188_6, U_188_12, XX, QQ, WW, KK, QX, SHs, RRs, Nat.reduceAdd, Nat.reduceMul, Nat.reduceLeDiff, Nat.reduceEqDiff, List.length_cons, List.length_nil, decide_true, decide_false, Bool.true_and, Bool.and_true, Bool.false_and, Bool.and_false, false_and, and_false, Bool.false_eq_true, Bool.true_eq_false, reduceCtorEq, eq_self, if_true, if_false, true_and, and_true, not_true_eq_false, not_false_eq_true, if_pos, if_neg, z_ite_not, false_or, or_false, true_or, or_true, SWs, swk_0, swk_1, g1, ew, hx]
          exact hE
      · have nx := nx (by rw [List.length_cons]; omega)
        obtain ⟨y, S1, rfl, _, h2⟩ := okK_c hS
        have hl2 := okK_len h2
        have e2 : evS vs q (y :: S1) = (y / nI q.2) :: S1 := by
          unfold evS
          rw [if_neg (by omega), if_neg (by omega)]
          dsimp only
          rw [if_pos q1]
        rw [e2] at nx
        rw [g2 (.inr q1)] at ew
        rw [q1] at g1
        obtain ⟨f', hE⟩ := nx _ (stk_put hf) (.int (nI 9)) (.int (nI q.2))
        refine ⟨f', ?_⟩
        have t1 := (stk_top hf).1
        rw [List.length_cons] at hE ⊢
        have z : ¬ nI q.2 = 0 := fun z => by rw [q_eq0 (by omega)] at z; omega
        rw [U_188_1]
        simp (disch := first | omega | assumption | exact rfl) only [U_188_2, U_188_7, U_188_8, U_188_12, XX, QQ, WW, KK, QX, SHs, RRs, Nat.reduceAdd, Nat.reduceMul, Nat.reduceLeDiff, Nat.reduceEqDiff, List.length_cons, List.length_nil, decide_true, decide_false, Bool.true_and, Bool.and_true, Bool.false_and, Bool.and_false, false_and, and_false, Bool.false_eq_true, Bool.true_eq_false, reduceCtorEq, eq_self, if_true, if_false, true_and, and_true, not_true_eq_false, not_false_eq_true, if_pos, if_neg, z_ite_not, false_or, or_false, true_or, or_true, SWs, swk_0, swk_1, g1, ew, Nat.add_sub_cancel, t1, z]
        exact hE
      · have nx := nx (by rw [List.length_cons] at hK ⊢; omega)
        rw [List.length_cons] at hK
        obtain ⟨y, S1, rfl, _, h2⟩ := okK_c hS
        have hl2 := okK_len h2
        have e2 : evS vs q (y :: S1) = (nI 1 - y) :: S1 := by
          unfold evS
          rw [if_neg (by omega), if_neg (by omega)]
          dsimp only
          rw [if_neg (by omega), if_pos q1]
        rw [e2] at nx
        rw [q1] at g1
        obtain ⟨f', hE⟩ := nx _ (stk_put hf) (.int (nI 13)) (.int w)
        refine ⟨f', ?_⟩
        have t1 := (stk_top hf).1
        rw [List.length_cons] at hE ⊢
        rw [U_188_1]
        simp (disch := first | omega | assumption | exact rfl) only [U_188_2, U_188_7, U_188_9, U_188_10, U_188_12, XX, QQ, WW, KK, QX, SHs, RRs, Nat.reduceAdd, Nat.reduceMul, Nat.reduceLeDiff, Nat.reduceEqDiff, List.length_cons, List.length_nil, decide_true, decide_false, Bool.true_and, Bool.and_true, Bool.false_and, Bool.and_false, false_and, and_false, Bool.false_eq_true, Bool.true_eq_false, reduceCtorEq, eq_self, if_true, if_false, true_and, and_true, not_true_eq_false, not_false_eq_true, if_pos, if_neg, z_ite_not, false_or, or_false, true_or, or_true, SWs, swk_0, swk_1, g1, ew, Nat.add_sub_cancel, t1]
        exact hE
      all_goals
        have nx := nx (by rw [List.length_cons, List.length_cons] at hK; rw [List.length_cons]; omega)
        rw [List.length_cons, List.length_cons] at hK
        obtain ⟨y, S1, rfl, _, h2⟩ := okK_c hS
        obtain ⟨x, S2, rfl, _, h3⟩ := okK_c h2
        have hl2 := okK_len h3
        have e2 : evS vs q (y :: x :: S2) = boF q.1 x y :: S2 := by
          unfold evS
          rw [if_neg (by omega), if_neg (by omega)]
          dsimp only
          rw [if_neg (by omega), if_neg (by omega)]
        rw [e2] at nx
        obtain ⟨f', hE⟩ := nx _ (stk_put (stk_top hf).2) (.int (nI q.1)) (.int w)
        refine ⟨f', ?_⟩
        have t1 := (stk_top hf).1
        have t3 := (stk_top (stk_top hf).2).1
        rw [List.length_cons] at t1
        rw [List.length_cons] at hE
        rw [List.length_cons, List.length_cons]
        have bo := fun M => r_both (X := X) (d := d) (op := q.1) (x := x) (y := y) (by omega) M (by omega)
        have o9 : ¬ q.1 = 9 := by omega
        have o13 : ¬ q.1 = 13 := by omega
        have o6 : 6 ≤ q.1 := by omega
        have o16 : q.1 < 16 := by omega
        rw [U_188_1]
        simp (disch := first | omega | assumption | exact rfl) only [U_188_2, U_188_7, U_188_9, U_188_11, U_188_12, XX, QQ, WW, KK, QX, SHs, RRs, Nat.reduceAdd, Nat.reduceMul, Nat.reduceLeDiff, Nat.reduceEqDiff, List.length_cons, List.length_nil, decide_true, decide_false, Bool.true_and, Bool.and_true, Bool.false_and, Bool.and_false, false_and, and_false, Bool.false_eq_true, Bool.true_eq_false, reduceCtorEq, eq_self, if_true, if_false, true_and, and_true, not_true_eq_false, not_false_eq_true, if_pos, if_neg, z_ite_not, false_or, or_false, true_or, or_true, SWs, swk_0, swk_1, g1, ew, Nat.add_sub_cancel, t1, t3, bo]
        exact hE
theorem r_comesTo {f0 : Nat} {l : List (Nat × Nat)} {b : Int32} (hd : 3 ≤ d) (hk3 : k < 3) (ht : t ≤ 409) (hv : ∀ o, o < 5 → I 184 (o + 1) = vs (o + 1)) (ha : ak l [] = some [true]) (hg : stpAt (I 178) (4700 + 820 * k) f0 l) (hp : t = f0 + l.length) (hb : evL vs l [] = [b]) :
    ∃ f, callF X d 188 [.ref 177, .int (nI k), .int (nI f0), .int (nI t)] (mk I J) = some (some (.int b), mk (va_up I 183 f) J) := by
  obtain ⟨d, rfl⟩ : ∃ d', d = d' + 1 := ⟨d - 1, by omega⟩
  have fin : At188 X d I J k (nI f0) t (f0 + l.length) (evL vs l []) (some (.int b)) := by
    rw [hb, ← hp]
    intro f hf u6 u7
    have t1 : f 0 = b := (stk_top hf).1
    refine ⟨f, ?_⟩
    rw [U_188_1]
    simp (disch := first | omega | assumption | exact rfl) only [U_188_13, XX, QQ, WW, KK, QX, SHs, RRs, Nat.reduceAdd, Nat.reduceMul, Nat.reduceLeDiff, Nat.reduceEqDiff, List.length_cons, List.length_nil, decide_true, decide_false, Bool.true_and, Bool.and_true, Bool.false_and, Bool.and_false, false_and, and_false, Bool.false_eq_true, Bool.true_eq_false, reduceCtorEq, eq_self, if_true, if_false, true_and, and_true, not_true_eq_false, not_false_eq_true, if_pos, if_neg, z_ite_not, false_or, or_false, true_or, or_true, SWs, swk_0, swk_1, t1]
  obtain ⟨f', hE⟩ := r_seg (X := X) (J := J) (fr := nI f0) (by omega) hk3 ht hv l [] [true] [] f0 ha trivial (Nat.zero_le _) hg (by omega) fin (I 183) (fun i hi => absurd hi (Nat.not_lt_zero i)) (.retAddr 0) (.retAddr 0)
  refine ⟨f', ?_⟩
  refine callF_at (by omega) (by decide) (Nat.le_of_ble_eq_true rfl) (fun d' hd' => ?_)
  obtain rfl : d = d' := by omega
  show Ev X d 188 0 [.ref 177, .int (nI k), .int (nI f0), .int (nI t), .retAddr 0, .retAddr 0, .retAddr 0, .retAddr 0] [] (mk I J) _
  rw [vu_id] at hE
  simp (disch := first | omega | assumption | exact rfl) only [U_188_0, XX, QQ, WW, KK, QX, SHs, RRs, Nat.reduceAdd, Nat.reduceMul, Nat.reduceLeDiff, Nat.reduceEqDiff, List.length_cons, List.length_nil, decide_true, decide_false, Bool.true_and, Bool.and_true, Bool.false_and, Bool.and_false, false_and, and_false, Bool.false_eq_true, Bool.true_eq_false, reduceCtorEq, eq_self, if_true, if_false, true_and, and_true, not_true_eq_false, not_false_eq_true, if_pos, if_neg, z_ite_not, false_or, or_false, true_or, or_true, SWs, swk_0, swk_1]
  exact hE
end RUE
