/-! ===== the reference: walls, who is near ===== -/
theorem r_isIn {X : Nat × (Nat → Int32)} {d : Nat} {M : Mem} {v lo hi : Int32} (hd : 1 ≤ d) : callF X d 155 [.int v, .int lo, .int hi] M = some (some (.int (bI (decide (lo ≤ v) && decide (v ≤ hi)))), M) := by
  refine callF_at (by omega) (by decide) (Nat.le_of_ble_eq_true rfl) (fun d _ => ?_)
  show Ev X d 155 0 [.int v, .int lo, .int hi] [] M _
  simp (disch := first | omega | assumption | exact rfl) only [U_155_0, U_155_1, U_155_2, U_155_3, U_155_4, XX, QQ, WW, KK, QX, SHs, RRs, Nat.reduceAdd, Nat.reduceMul, Nat.reduceLeDiff, Nat.reduceEqDiff, List.length_cons, List.length_nil, decide_true, decide_false, Bool.true_and, Bool.and_true, Bool.false_and, Bool.and_false, false_and, and_false, Bool.false_eq_true, Bool.true_eq_false, reduceCtorEq, eq_self, if_true, if_false, true_and, and_true, not_true_eq_false, not_false_eq_true, if_pos, if_neg, z_ite_not]
  by_cases h1 : v < lo
  · rw [if_pos h1, decide_eq_false (fun z => (fa_of_lt h1).2.1 z)]; rfl
  · rw [if_neg h1, decide_eq_true (fa_of_nlt h1)]
    by_cases h2 : hi < v
    · rw [if_pos h2, decide_eq_false (fun z => (fa_of_lt h2).2.1 z)]; rfl
    · rw [if_neg h2, decide_eq_true (fa_of_nlt h2)]; rfl
theorem r_isShape {X : Nat × (Nat → Int32)} {d : Nat} {M : Mem} {v : Int32} (hd : 2 ≤ d) : callF X d 189 [.int v] M = some (some (.int (bI (decide (nI 0 ≤ v) && decide (v ≤ nI 5)))), M) := by
  refine callF_at (by omega) (by decide) (Nat.le_of_ble_eq_true rfl) (fun d _ => ?_)
  show Ev X d 189 0 [.int v] [] M _
  simp (disch := first | omega | assumption | exact rfl) only [U_189_0, XX, QQ, WW, KK, QX, SHs, RRs, Nat.reduceAdd, Nat.reduceMul, Nat.reduceLeDiff, Nat.reduceEqDiff, List.length_cons, List.length_nil, decide_true, decide_false, Bool.true_and, Bool.and_true, Bool.false_and, Bool.and_false, false_and, and_false, Bool.false_eq_true, Bool.true_eq_false, reduceCtorEq, eq_self, if_true, if_false, true_and, and_true, not_true_eq_false, not_false_eq_true, if_pos, if_neg, z_ite_not, r_isIn]
theorem r_isWall {X : Nat × (Nat → Int32)} {d : Nat} {M : Mem} {v : Int32} (hd : 2 ≤ d) : callF X d 190 [.int v] M = some (some (.int (bI (decide (nI 0 ≤ v) && decide (v ≤ nI 5)))), M) := by
  refine callF_at (by omega) (by decide) (Nat.le_of_ble_eq_true rfl) (fun d _ => ?_)
  show Ev X d 190 0 [.int v] [] M _
  simp (disch := first | omega | assumption | exact rfl) only [U_190_0, XX, QQ, WW, KK, QX, SHs, RRs, Nat.reduceAdd, Nat.reduceMul, Nat.reduceLeDiff, Nat.reduceEqDiff, List.length_cons, List.length_nil, decide_true, decide_false, Bool.true_and, Bool.and_true, Bool.false_and, Bool.and_false, false_and, and_false, Bool.false_eq_true, Bool.true_eq_false, reduceCtorEq, eq_self, if_true, if_false, true_and, and_true, not_true_eq_false, not_false_eq_true, if_pos, if_neg, z_ite_not, r_isIn]
theorem r_isBrick {X : Nat × (Nat → Int32)} {d : Nat} {M : Mem} {v : Int32} (hd : 2 ≤ d) : callF X d 191 [.int v] M = some (some (.int (bI (decide (nI 0 ≤ v) && decide (v ≤ nI 23)))), M) := by
  refine callF_at (by omega) (by decide) (Nat.le_of_ble_eq_true rfl) (fun d _ => ?_)
  show Ev X d 191 0 [.int v] [] M _
  simp (disch := first | omega | assumption | exact rfl) only [U_191_0, XX, QQ, WW, KK, QX, SHs, RRs, Nat.reduceAdd, Nat.reduceMul, Nat.reduceLeDiff, Nat.reduceEqDiff, List.length_cons, List.length_nil, decide_true, decide_false, Bool.true_and, Bool.and_true, Bool.false_and, Bool.and_false, false_and, and_false, Bool.false_eq_true, Bool.true_eq_false, reduceCtorEq, eq_self, if_true, if_false, true_and, and_true, not_true_eq_false, not_false_eq_true, if_pos, if_neg, z_ite_not, r_isIn]
theorem pop24 {x : Nat} (h : x < 2 ^ 24) : pop x = fb_ct x.testBit 24 := by
  unfold pop
  rw [fb_ct_split x.testBit 24 40, (fb_ct_zero (p := fun k => x.testBit (24 + k)) (n := 40)).mpr (fun k _ => Nat.testBit_lt_two_pow (Nat.lt_of_lt_of_le h (Nat.pow_le_pow_right (by decide) (by omega)))), Nat.add_zero]
theorem bI_n {c : Bool} : bI c = nI (if c = true then 1 else 0) := by cases c <;> rfl
theorem r_count {X : Nat × (Nat → Int32)} {d : Nat} {M : Mem} {x : Nat} (hd : 1 ≤ d) (hx : x < 2 ^ 24) : callF X d 156 [.int (nI x)] M = some (some (.int (nI (pop x))), M) := by
  refine callF_at (by omega) (by decide) (Nat.le_of_ble_eq_true rfl) (fun d _ => ?_)
  show Ev X d 156 0 [.int (nI x), .retAddr 0, .retAddr 0] [] M _
  simp (disch := first | omega | assumption | exact rfl) only [U_156_0, XX, QQ, WW, KK, QX, SHs, RRs, Nat.reduceAdd, Nat.reduceMul, Nat.reduceLeDiff, Nat.reduceEqDiff, List.length_cons, List.length_nil, decide_true, decide_false, Bool.true_and, Bool.and_true, Bool.false_and, Bool.and_false, false_and, and_false, Bool.false_eq_true, Bool.true_eq_false, reduceCtorEq, eq_self, if_true, if_false, true_and, and_true, not_true_eq_false, not_false_eq_true, if_pos, if_neg, z_ite_not]
  rw [pop24 hx]
  refine lp0 (n := 24) (P := fun k => Ev X d 156 1 [.int (nI x), .int (nI (fb_ct x.testBit k)), .int (nI k)] [] M (some (.int (nI (fb_ct x.testBit 24))), M)) ?_ ?_
  · rw [U_156_1]
    simp (disch := first | omega | assumption | exact rfl) only [U_156_3, XX, QQ, WW, KK, QX, SHs, RRs, Nat.reduceAdd, Nat.reduceMul, Nat.reduceLeDiff, Nat.reduceEqDiff, List.length_cons, List.length_nil, decide_true, decide_false, Bool.true_and, Bool.and_true, Bool.false_and, Bool.and_false, false_and, and_false, Bool.false_eq_true, Bool.true_eq_false, reduceCtorEq, eq_self, if_true, if_false, true_and, and_true, not_true_eq_false, not_false_eq_true, if_pos, if_neg, z_ite_not]
  · intro k hk ih
    rw [U_156_1]
    rw [fb_ct_succ] at ih
    simp (disch := first | omega | assumption | exact rfl) only [U_156_2, XX, QQ, WW, KK, QX, SHs, RRs, Nat.reduceAdd, Nat.reduceMul, Nat.reduceLeDiff, Nat.reduceEqDiff, List.length_cons, List.length_nil, decide_true, decide_false, Bool.true_and, Bool.and_true, Bool.false_and, Bool.and_false, false_and, and_false, Bool.false_eq_true, Bool.true_eq_false, reduceCtorEq, eq_self, if_true, if_false, true_and, and_true, not_true_eq_false, not_false_eq_true, if_pos, if_neg, z_ite_not, bI_n]
    exact ih
theorem adj_xy {p q : Nat} : ((if q % 8 < p % 8 then p % 8 - q % 8 else q % 8 - p % 8) + (if q / 8 < p / 8 then p / 8 - q / 8 else q / 8 - p / 8) = 1) ↔ adj p q := by
  unfold adj
  split <;> split <;> omega
theorem r_touch {X : Nat × (Nat → Int32)} {d : Nat} {M : Mem} {x y u v : Nat} (hd : 1 ≤ d) (hx : x < 2 ^ 20) (hy : y < 2 ^ 20) (hu : u < 2 ^ 20) (hv : v < 2 ^ 20) : callF X d 193 [.int (nI x), .int (nI y), .int (nI u), .int (nI v)] M = some (some (.int (bI (decide ((if u < x then x - u else u - x) + (if v < y then y - v else v - y) = 1)))), M) := by
  refine callF_at (by omega) (by decide) (Nat.le_of_ble_eq_true rfl) (fun d _ => ?_)
  show Ev X d 193 0 [.int (nI x), .int (nI y), .int (nI u), .int (nI v), .retAddr 0, .retAddr 0] [] M _
  rcases Nat.lt_or_ge u x with h | h
  · rcases Nat.lt_or_ge v y with h' | h'
    · rw [if_pos h, if_pos h']
      by_cases e : x - u + (y - v) = 1
      · omega
      · simp (disch := first | omega | assumption | exact rfl) only [U_193_0, U_193_1, U_193_2, U_193_3, U_193_4, U_193_5, U_193_6, U_193_7, U_193_8, U_193_9, XX, QQ, WW, KK, QX, SHs, RRs, Nat.reduceAdd, Nat.reduceMul, Nat.reduceLeDiff, Nat.reduceEqDiff, List.length_cons, List.length_nil, decide_true, decide_false, Bool.true_and, Bool.and_true, Bool.false_and, Bool.and_false, false_and, and_false, Bool.false_eq_true, Bool.true_eq_false, reduceCtorEq, eq_self, if_true, if_false, true_and, and_true, not_true_eq_false, not_false_eq_true, if_pos, if_neg, z_ite_not]
    · rw [if_pos h, if_neg (by omega)]
      by_cases e : x - u + (v - y) = 1
      · simp (disch := first | omega | assumption | exact rfl) only [U_193_0, U_193_1, U_193_2, U_193_3, U_193_4, U_193_5, U_193_6, U_193_7, U_193_8, U_193_9, XX, QQ, WW, KK, QX, SHs, RRs, Nat.reduceAdd, Nat.reduceMul, Nat.reduceLeDiff, Nat.reduceEqDiff, List.length_cons, List.length_nil, decide_true, decide_false, Bool.true_and, Bool.and_true, Bool.false_and, Bool.and_false, false_and, and_false, Bool.false_eq_true, Bool.true_eq_false, reduceCtorEq, eq_self, if_true, if_false, true_and, and_true, not_true_eq_false, not_false_eq_true, if_pos, if_neg, z_ite_not]
      · simp (disch := first | omega | assumption | exact rfl) only [U_193_0, U_193_1, U_193_2, U_193_3, U_193_4, U_193_5, U_193_6, U_193_7, U_193_8, U_193_9, XX, QQ, WW, KK, QX, SHs, RRs, Nat.reduceAdd, Nat.reduceMul, Nat.reduceLeDiff, Nat.reduceEqDiff, List.length_cons, List.length_nil, decide_true, decide_false, Bool.true_and, Bool.and_true, Bool.false_and, Bool.and_false, false_and, and_false, Bool.false_eq_true, Bool.true_eq_false, reduceCtorEq, eq_self, if_true, if_false, true_and, and_true, not_true_eq_false, not_false_eq_true, if_pos, if_neg, z_ite_not]
  · rcases Nat.lt_or_ge v y with h' | h'
    · rw [if_neg (by omega), if_pos h']
      by_cases e : u - x + (y - v) = 1
      · simp (disch := first | omega | assumption | exact rfl) only [U_193_0, U_193_1, U_193_2, U_193_3, U_193_4, U_193_5, U_193_6, U_193_7, U_193_8, U_193_9, XX, QQ, WW, KK, QX, SHs, RRs, Nat.reduceAdd, Nat.reduceMul, Nat.reduceLeDiff, Nat.reduceEqDiff, List.length_cons, List.length_nil, decide_true, decide_false, Bool.true_and, Bool.and_true, Bool.false_and, Bool.and_false, false_and, and_false, Bool.false_eq_true, Bool.true_eq_false, reduceCtorEq, eq_self, if_true, if_false, true_and, and_true, not_true_eq_false, not_false_eq_true, if_pos, if_neg, z_ite_not]
      · simp (disch := first | omega | assumption | exact rfl) only [U_193_0, U_193_1, U_193_2, U_193_3, U_193_4, U_193_5, U_193_6, U_193_7, U_193_8, U_193_9, XX, QQ, WW, KK, QX, SHs, RRs, Nat.reduceAdd, Nat.reduceMul, Nat.reduceLeDiff, Nat.reduceEqDiff, List.length_cons, List.length_nil, decide_true, decide_false, Bool.true_and, Bool.and_true, Bool.false_and, Bool.and_false, false_and, and_false, Bool.false_eq_true, Bool.true_eq_false, reduceCtorEq, eq_self, if_true, if_false, true_and, and_true, not_true_eq_false, not_false_eq_true, if_pos, if_neg, z_ite_not]
    · rw [if_neg (by omega), if_neg (by omega)]
      by_cases e : u - x + (v - y) = 1
      · simp (disch := first | omega | assumption | exact rfl) only [U_193_0, U_193_1, U_193_2, U_193_3, U_193_4, U_193_5, U_193_6, U_193_7, U_193_8, U_193_9, XX, QQ, WW, KK, QX, SHs, RRs, Nat.reduceAdd, Nat.reduceMul, Nat.reduceLeDiff, Nat.reduceEqDiff, List.length_cons, List.length_nil, decide_true, decide_false, Bool.true_and, Bool.and_true, Bool.false_and, Bool.and_false, false_and, and_false, Bool.false_eq_true, Bool.true_eq_false, reduceCtorEq, eq_self, if_true, if_false, true_and, and_true, not_true_eq_false, not_false_eq_true, if_pos, if_neg, z_ite_not]
      · simp (disch := first | omega | assumption | exact rfl) only [U_193_0, U_193_1, U_193_2, U_193_3, U_193_4, U_193_5, U_193_6, U_193_7, U_193_8, U_193_9, XX, QQ, WW, KK, QX, SHs, RRs, Nat.reduceAdd, Nat.reduceMul, Nat.reduceLeDiff, Nat.reduceEqDiff, List.length_cons, List.length_nil, decide_true, decide_false, Bool.true_and, Bool.and_true, Bool.false_and, Bool.and_false, false_and, and_false, Bool.false_eq_true, Bool.true_eq_false, reduceCtorEq, eq_self, if_true, if_false, true_and, and_true, not_true_eq_false, not_false_eq_true, if_pos, if_neg, z_ite_not]
/-- a wall, a shape of the reference -/
def RWl (f : Nat → Int32) (a F : Nat) (B : Nat → Int32) : Prop := pop F ≤ 24 ∧ f (370 + a) = nI (pop F) ∧ (∀ i, i < pop F → f (380 + 24 * a + i) = nI (pl F i % 8) ∧ f (524 + 24 * a + i) = nI (pl F i / 8)) ∧ (∀ i, i < 24 → f (668 + 24 * a + i) = B i)
def RSh (f : Nat → Int32) (s F : Nat) : Prop := pop F ≤ 24 ∧ f (70 + s) = nI (pop F) ∧ (∀ i, i < pop F → f (80 + 24 * s + i) = nI (pl F i % 8) ∧ f (224 + 24 * s + i) = nI (pl F i / 8))
theorem adj_dec {p q : Nat} : decide ((if q % 8 < p % 8 then p % 8 - q % 8 else q % 8 - p % 8) + (if q / 8 < p / 8 then p / 8 - q / 8 else q / 8 - p / 8) = 1) = cd (adj p q) := by
  rw [Bool.eq_iff_iff, decide_eq_true_iff, cd_iff]; exact adj_xy
theorem r_wallTouch {X : Nat × (Nat → Int32)} {d : Nat} {I : Nat → Nat → Int32} {J : Nat → Nat → Int64} {a F i j : Nat} {B : Nat → Int32} (hd : 2 ≤ d) (ha : a < 6) (hR : RWl (I 178) a F B) (hi : i < pop F) (hj : j < pop F) : callF X d 195 [.ref 177, .int (nI a), .int (nI i), .int (nI j)] (mk I J) = some (some (.int (bI (cd (adj (pl F i) (pl F j))))), mk I J) := by
  obtain ⟨h24, h1, h2, h3⟩ := hR
  refine callF_at (by omega) (by decide) (Nat.le_of_ble_eq_true rfl) (fun d _ => ?_)
  show Ev X d 195 0 [.ref 177, .int (nI a), .int (nI i), .int (nI j)] [] ( mk I J) _
  have p1 := (pl_spec hi).1
  have p2 := (pl_spec hj).1
  have e1 := (h2 i hi).1; have e2 := (h2 i hi).2; have e3 := (h2 j hj).1; have e4 := (h2 j hj).2
  simp (disch := first | omega | assumption | exact rfl) only [U_195_0, XX, QQ, WW, KK, QX, SHs, RRs, Nat.reduceAdd, Nat.reduceMul, Nat.reduceLeDiff, Nat.reduceEqDiff, List.length_cons, List.length_nil, decide_true, decide_false, Bool.true_and, Bool.and_true, Bool.false_and, Bool.and_false, false_and, and_false, Bool.false_eq_true, Bool.true_eq_false, reduceCtorEq, eq_self, if_true, if_false, true_and, and_true, not_true_eq_false, not_false_eq_true, if_pos, if_neg, z_ite_not, e1, e2, e3, e4, r_touch, adj_dec]
theorem r_shapeTouch {X : Nat × (Nat → Int32)} {d : Nat} {I : Nat → Nat → Int32} {J : Nat → Nat → Int64} {s F i j : Nat} (hd : 2 ≤ d) (ha : s < 6) (hR : RSh (I 178) s F) (hi : i < pop F) (hj : j < pop F) : callF X d 194 [.ref 177, .int (nI s), .int (nI i), .int (nI j)] (mk I J) = some (some (.int (bI (cd (adj (pl F i) (pl F j))))), mk I J) := by
  obtain ⟨h24, h1, h2⟩ := hR
  refine callF_at (by omega) (by decide) (Nat.le_of_ble_eq_true rfl) (fun d _ => ?_)
  show Ev X d 194 0 [.ref 177, .int (nI s), .int (nI i), .int (nI j)] [] ( mk I J) _
  have p1 := (pl_spec hi).1
  have p2 := (pl_spec hj).1
  have e1 := (h2 i hi).1; have e2 := (h2 i hi).2; have e3 := (h2 j hj).1; have e4 := (h2 j hj).2
  simp (disch := first | omega | assumption | exact rfl) only [U_194_0, XX, QQ, WW, KK, QX, SHs, RRs, Nat.reduceAdd, Nat.reduceMul, Nat.reduceLeDiff, Nat.reduceEqDiff, List.length_cons, List.length_nil, decide_true, decide_false, Bool.true_and, Bool.and_true, Bool.false_and, Bool.and_false, false_and, and_false, Bool.false_eq_true, Bool.true_eq_false, reduceCtorEq, eq_self, if_true, if_false, true_and, and_true, not_true_eq_false, not_false_eq_true, if_pos, if_neg, z_ite_not, e1, e2, e3, e4, r_touch, adj_dec]
theorem r_brick {X : Nat × (Nat → Int32)} {d : Nat} {I : Nat → Nat → Int32} {J : Nat → Nat → Int64} {a i : Nat} (hd : 1 ≤ d) (ha : a < 6) (hi : i < 24) : callF X d 200 [.ref 177, .int (nI a), .int (nI i)] (mk I J) = some (some (.int (I 178 (668 + 24 * a + i))), mk I J) := by
  refine callF_at (by omega) (by decide) (Nat.le_of_ble_eq_true rfl) (fun d _ => ?_)
  show Ev X d 200 0 [.ref 177, .int (nI a), .int (nI i)] [] ( mk I J) _
  simp (disch := first | omega | assumption | exact rfl) only [U_200_0, XX, QQ, WW, KK, QX, SHs, RRs, Nat.reduceAdd, Nat.reduceMul, Nat.reduceLeDiff, Nat.reduceEqDiff, List.length_cons, List.length_nil, decide_true, decide_false, Bool.true_and, Bool.and_true, Bool.false_and, Bool.and_false, false_and, and_false, Bool.false_eq_true, Bool.true_eq_false, reduceCtorEq, eq_self, if_true, if_false, true_and, and_true, not_true_eq_false, not_false_eq_true, if_pos, if_neg, z_ite_not]
theorem r_placeOf {X : Nat × (Nat → Int32)} {d : Nat} {I : Nat → Nat → Int32} {J : Nat → Nat → Int64} {a F : Nat} {B : Nat → Int32} {b : Int32} (hd : 2 ≤ d) (ha : a < 6) (hR : RWl (I 178) a F B) : callF X d 201 [.ref 177, .int (nI a), .int b] (mk I J) = some (some (.int (fstI B b (pop F) 0)), mk I J) := by
  obtain ⟨h24, h1, h2, h3⟩ := hR
  refine callF_at (by omega) (by decide) (Nat.le_of_ble_eq_true rfl) (fun d _ => ?_)
  show Ev X d 201 0 [.ref 177, .int (nI a), .int b, .retAddr 0] [] ( mk I J) _
  simp (disch := first | omega | assumption | exact rfl) only [U_201_0, XX, QQ, WW, KK, QX, SHs, RRs, Nat.reduceAdd, Nat.reduceMul, Nat.reduceLeDiff, Nat.reduceEqDiff, List.length_cons, List.length_nil, decide_true, decide_false, Bool.true_and, Bool.and_true, Bool.false_and, Bool.and_false, false_and, and_false, Bool.false_eq_true, Bool.true_eq_false, reduceCtorEq, eq_self, if_true, if_false, true_and, and_true, not_true_eq_false, not_false_eq_true, if_pos, if_neg, z_ite_not]
  refine lp0 (n := pop F) (P := fun i => Ev X d 201 1 [.ref 177, .int (nI a), .int b, .int (nI i)] [] (mk I J) (some (.int (fstI B b (pop F - i) i)), mk I J)) ?_ ?_
  · rw [U_201_1, Nat.sub_self]
    simp (disch := first | omega | assumption | exact rfl) only [U_201_5, XX, QQ, WW, KK, QX, SHs, RRs, Nat.reduceAdd, Nat.reduceMul, Nat.reduceLeDiff, Nat.reduceEqDiff, List.length_cons, List.length_nil, decide_true, decide_false, Bool.true_and, Bool.and_true, Bool.false_and, Bool.and_false, false_and, and_false, Bool.false_eq_true, Bool.true_eq_false, reduceCtorEq, eq_self, if_true, if_false, true_and, and_true, not_true_eq_false, not_false_eq_true, if_pos, if_neg, z_ite_not, h1, fstI]
  · intro i hi ih
    rw [U_201_1, show pop F - i = (pop F - (i + 1)) + 1 by omega, fstI]
    have e := h3 i (by omega)
    simp (disch := first | omega | assumption | exact rfl) only [U_201_2, U_201_3, U_201_4, XX, QQ, WW, KK, QX, SHs, RRs, Nat.reduceAdd, Nat.reduceMul, Nat.reduceLeDiff, Nat.reduceEqDiff, List.length_cons, List.length_nil, decide_true, decide_false, Bool.true_and, Bool.and_true, Bool.false_and, Bool.and_false, false_and, and_false, Bool.false_eq_true, Bool.true_eq_false, reduceCtorEq, eq_self, if_true, if_false, true_and, and_true, not_true_eq_false, not_false_eq_true, if_pos, if_neg, z_ite_not, h1, r_brick, e]
    split
    · trivial
    · exact ih
noncomputable def inP (B : Nat → Int32) (i : Nat) : Nat := bs (fun c => ∃ i', i' < i ∧ B i' = nI c)
theorem inP_s {B : Nat → Int32} {i : Nat} (h : B i = -1) : inP B (i + 1) = inP B i := bs_ext (fun c _ => by
  constructor
  · rintro ⟨i', h1, h2⟩
    by_cases e : i' = i
    · subst e; rw [h] at h2; exact absurd h2.symm (nI_ne (by omega))
    · exact ⟨i', by omega, h2⟩
  · rintro ⟨i', h1, h2⟩; exact ⟨i', by omega, h2⟩)
theorem inP_i {B : Nat → Int32} {i b : Nat} (hb : b < 24) (h : B i = nI b) : inP B (i + 1) = inP B i ||| 2 ^ b := by
  unfold inP
  rw [bs_ins hb]
  exact bs_ext (fun c _ => by
    constructor
    · rintro ⟨i', h1, h2⟩
      by_cases e : i' = i
      · subst e; exact .inr (nI_inj (by omega) (by omega) (h.symm.trans h2)).symm
      · exact .inl ⟨i', by omega, h2⟩
    · rintro (⟨i', h1, h2⟩ | rfl)
      · exact ⟨i', by omega, h2⟩
      · exact ⟨i, by omega, h⟩)
noncomputable def rowP (F : Nat) (B : Nat → Int32) (i j : Nat) : Nat := bs (fun c => ∃ j', j' < j ∧ adj (pl F i) (pl F j') ∧ B j' = nI c)
theorem rowP_s {F : Nat} {B : Nat → Int32} {i j : Nat} (h : ¬ adj (pl F i) (pl F j) ∨ B j = -1) : rowP F B i (j + 1) = rowP F B i j := bs_ext (fun c _ => by
  constructor
  · rintro ⟨j', h1, h2, h3⟩
    by_cases e : j' = j
    · subst e
      rcases h with h | h
      · exact absurd h2 h
      · rw [h] at h3; exact absurd h3.symm (nI_ne (by omega))
    · exact ⟨j', by omega, h2, h3⟩
  · rintro ⟨j', h1, h2⟩; exact ⟨j', by omega, h2⟩)
theorem rowP_i {F : Nat} {B : Nat → Int32} {i j b : Nat} (hb : b < 24) (h : B j = nI b) (ha : adj (pl F i) (pl F j)) : rowP F B i (j + 1) = rowP F B i j ||| 2 ^ b := by
  unfold rowP
  rw [bs_ins hb]
  exact bs_ext (fun c _ => by
    constructor
    · rintro ⟨j', h1, h2, h3⟩
      by_cases e : j' = j
      · subst e; exact .inr (nI_inj (by omega) (by omega) (h.symm.trans h3)).symm
      · exact .inl ⟨j', by omega, h2, h3⟩
    · rintro (⟨i', h1, h2⟩ | rfl)
      · exact ⟨i', by omega, h2⟩
      · exact ⟨j, by omega, ha, h⟩)
theorem rowP_0 {F : Nat} {B : Nat → Int32} {i : Nat} : rowP F B i 0 = 0 := bs_0 (fun c _ => by rintro ⟨j, h, _⟩; omega)
theorem gN_n {F : Nat} {B : Nat → Int32} {g : Nat → Int32} {i : Nat} (z : B i = -1) : gN F B g (i + 1) = gN F B g i := by
  funext b; unfold gN
  by_cases h : b < 24
  · rw [if_pos h, if_pos h, nrP_s]
    rw [z]; exact (nI_ne (by omega)).symm
  · rw [if_neg h, if_neg h]
theorem gN_s {F : Nat} {B : Nat → Int32} {g : Nat → Int32} {i b : Nat} (hB : WB B (pop F)) (hi : i < pop F) (hb : b < 24) (z : B i = nI b) : va_up (gN F B g i) b (nI (nbr F B i)) = gN F B g (i + 1) := by
  funext b'; unfold va_up gN
  by_cases h : b' = b
  · subst h; rw [if_pos rfl, if_pos hb, nrP_at hB hi hb z]
  · rw [if_neg h]
    by_cases h' : b' < 24
    · rw [if_pos h', if_pos h', nrP_s]
      rw [z]; exact fun q => h (nI_inj (by omega) (by omega) q.symm)
    · rw [if_neg h', if_neg h']
theorem gN_b0 {F : Nat} {B : Nat → Int32} {g : Nat → Int32} {i b : Nat} (hB : WB B (pop F)) (hi : i < pop F) (hb : b < 24) (z : B i = nI b) : gN F B g i b = nI 0 := by
  unfold gN
  rw [if_pos hb]
  congr 1
  exact bs_0 (fun c _ => by
    rintro ⟨i', j, h1, h2, h3, _⟩
    have := hB.2.1 i' i (by omega) hi (h3.trans z.symm) (by rw [h3]; exact nI_ne (by omega))
    omega)
theorem r_lays {X : Nat × (Nat → Int32)} {d : Nat} {I : Nat → Nat → Int32} {J : Nat → Nat → Int64} {a F N : Nat} {B : Nat → Int32} (hd : 3 ≤ d) (ha : a < 6) (hR : RWl (I 178) a F B) (hB : WB B (pop F)) (hN : SH N = (20, 24)) (hN2 : N ≠ 177 ∧ N ≠ 178) : callF X d 205 [.ref 177, .int (nI a), .ref N] (mk I J) = some (some (.int (nI (ins F B))), mk (va_up I N (gN F B (I N) (pop F))) J) := by
  have hR0 := hR
  obtain ⟨h24, h1, h2, h3⟩ := hR
  refine callF_at (by omega) (by decide) (Nat.le_of_ble_eq_true rfl) (fun d _ => ?_)
  show Ev X d 205 0 [.ref 177, .int (nI a), .ref N, .retAddr 0, .retAddr 0, .retAddr 0] [] ( mk I J) _
  simp (disch := first | omega | assumption | exact rfl) only [U_205_0, XX, QQ, WW, KK, QX, SHs, RRs, Nat.reduceAdd, Nat.reduceMul, Nat.reduceLeDiff, Nat.reduceEqDiff, List.length_cons, List.length_nil, decide_true, decide_false, Bool.true_and, Bool.and_true, Bool.false_and, Bool.and_false, false_and, and_false, Bool.false_eq_true, Bool.true_eq_false, reduceCtorEq, eq_self, if_true, if_false, true_and, and_true, not_true_eq_false, not_false_eq_true, if_pos, if_neg, z_ite_not]
  refine lpI (n := 24) (P := fun b => Ev X d 205 1 [.ref 177, .int (nI a), .ref N, .int (nI 0), .int (nI b), .retAddr 0] [] (mk (va_up I N (fillI b (nI 0) (I N))) J) (some (.int (nI (ins F B))), mk (va_up I N (gN F B (I N) (pop F))) J)) ?_ ?_ (fun L => by rw [fillI_0, vu_id] at L; exact L)
  · rw [U_205_1]
    simp (disch := first | omega | assumption | exact rfl) only [U_205_3, XX, QQ, WW, KK, QX, SHs, RRs, Nat.reduceAdd, Nat.reduceMul, Nat.reduceLeDiff, Nat.reduceEqDiff, List.length_cons, List.length_nil, decide_true, decide_false, Bool.true_and, Bool.and_true, Bool.false_and, Bool.and_false, false_and, and_false, Bool.false_eq_true, Bool.true_eq_false, reduceCtorEq, eq_self, if_true, if_false, true_and, and_true, not_true_eq_false, not_false_eq_true, if_pos, if_neg, z_ite_not]
    refine lpI (n := pop F) (P := fun i => ∀ u : Value, Ev X d 205 4 [.ref 177, .int (nI a), .ref N, .int (nI (inP B i)), .int (nI i), u] [] (mk (va_up I N (gN F B (I N) i)) J) (some (.int (nI (ins F B))), mk (va_up I N (gN F B (I N) (pop F))) J)) ?_ ?_ (fun L => by
      have e : inP B 0 = 0 := bs_0 (fun c _ => by rintro ⟨i, h, _⟩; omega)
      rw [e, gN_0] at L; exact L _)
    · intro u
      rw [U_205_4]
      simp (disch := first | omega | assumption | exact rfl) only [U_205_14, XX, QQ, WW, KK, QX, SHs, RRs, Nat.reduceAdd, Nat.reduceMul, Nat.reduceLeDiff, Nat.reduceEqDiff, List.length_cons, List.length_nil, decide_true, decide_false, Bool.true_and, Bool.and_true, Bool.false_and, Bool.and_false, false_and, and_false, Bool.false_eq_true, Bool.true_eq_false, reduceCtorEq, eq_self, if_true, if_false, true_and, and_true, not_true_eq_false, not_false_eq_true, if_pos, if_neg, z_ite_not, h1]
      rfl
    · intro i hi ih u
      rw [U_205_4]
      have e := h3 i (by omega)
      rcases hB.1 i hi with z | ⟨b, hb, z⟩
      · rw [inP_s z, gN_n z] at ih
        rw [z] at e
        simp (disch := first | omega | assumption | exact rfl) only [U_205_5, U_205_6, U_205_13, XX, QQ, WW, KK, QX, SHs, RRs, Nat.reduceAdd, Nat.reduceMul, Nat.reduceLeDiff, Nat.reduceEqDiff, List.length_cons, List.length_nil, decide_true, decide_false, Bool.true_and, Bool.and_true, Bool.false_and, Bool.and_false, false_and, and_false, Bool.false_eq_true, Bool.true_eq_false, reduceCtorEq, eq_self, if_true, if_false, true_and, and_true, not_true_eq_false, not_false_eq_true, if_pos, if_neg, z_ite_not, h1, r_brick, e]
        exact ih _
      · rw [inP_i hb z, ← gN_s hB hi hb z] at ih
        rw [z] at e
        simp (disch := first | omega | assumption | exact rfl) only [U_205_5, U_205_7, XX, QQ, WW, KK, QX, SHs, RRs, Nat.reduceAdd, Nat.reduceMul, Nat.reduceLeDiff, Nat.reduceEqDiff, List.length_cons, List.length_nil, decide_true, decide_false, Bool.true_and, Bool.and_true, Bool.false_and, Bool.and_false, false_and, and_false, Bool.false_eq_true, Bool.true_eq_false, reduceCtorEq, eq_self, if_true, if_false, true_and, and_true, not_true_eq_false, not_false_eq_true, if_pos, if_neg, z_ite_not, h1, r_brick, e, fa_or]
        refine lpI (n := pop F) (P := fun j => Ev X d 205 8 [.ref 177, .int (nI a), .ref N, .int (nI (inP B i ||| 2 ^ b)), .int (nI i), .int (nI j)] [] (mk (va_up I N (va_up (gN F B (I N) i) b (nI (rowP F B i j)))) J) (some (.int (nI (ins F B))), mk (va_up I N (gN F B (I N) (pop F))) J)) ?_ ?_ (fun L => by
          have e0 := gN_b0 (g := I N) hB hi hb z
          have e1 : va_up (gN F B (I N) i) b (nI 0) = gN F B (I N) i := by rw [← e0]; exact vu_id
          rw [rowP_0, e1] at L; exact L)
        · rw [U_205_8]
          simp (disch := first | omega | assumption | exact rfl) only [U_205_13, XX, QQ, WW, KK, QX, SHs, RRs, Nat.reduceAdd, Nat.reduceMul, Nat.reduceLeDiff, Nat.reduceEqDiff, List.length_cons, List.length_nil, decide_true, decide_false, Bool.true_and, Bool.and_true, Bool.false_and, Bool.and_false, false_and, and_false, Bool.false_eq_true, Bool.true_eq_false, reduceCtorEq, eq_self, if_true, if_false, true_and, and_true, not_true_eq_false, not_false_eq_true, if_pos, if_neg, z_ite_not, h1]
          exact ih _
        · intro j hj ihj
          rw [U_205_8]
          have e' := h3 j (by omega)
          have hR1 : RWl (va_up I N (va_up (gN F B (I N) i) b (nI (rowP F B i j))) 178) a F B := by rw [vu_ne (by omega)]; exact hR0
          have wt := r_wallTouch (X := X) (d := d) (J := J) (by omega) ha hR1 hi hj
          rcases hB.1 j hj with z' | ⟨b', hb', z'⟩
          · rw [rowP_s (.inr z')] at ihj
            rw [z'] at e'
            simp (disch := first | omega | assumption | exact rfl) only [U_205_9, U_205_12, XX, QQ, WW, KK, QX, SHs, RRs, Nat.reduceAdd, Nat.reduceMul, Nat.reduceLeDiff, Nat.reduceEqDiff, List.length_cons, List.length_nil, decide_true, decide_false, Bool.true_and, Bool.and_true, Bool.false_and, Bool.and_false, false_and, and_false, Bool.false_eq_true, Bool.true_eq_false, reduceCtorEq, eq_self, if_true, if_false, true_and, and_true, not_true_eq_false, not_false_eq_true, if_pos, if_neg, z_ite_not, h1, r_brick, e']
            exact ihj
          · rw [z'] at e'
            by_cases q : adj (pl F i) (pl F j)
            · rw [rowP_i hb' z' q] at ihj
              have cq := cd_iff.mpr q
              simp (disch := first | omega | assumption | exact rfl) only [U_205_9, U_205_10, U_205_11, U_205_12, XX, QQ, WW, KK, QX, SHs, RRs, Nat.reduceAdd, Nat.reduceMul, Nat.reduceLeDiff, Nat.reduceEqDiff, List.length_cons, List.length_nil, decide_true, decide_false, Bool.true_and, Bool.and_true, Bool.false_and, Bool.and_false, false_and, and_false, Bool.false_eq_true, Bool.true_eq_false, reduceCtorEq, eq_self, if_true, if_false, true_and, and_true, not_true_eq_false, not_false_eq_true, if_pos, if_neg, z_ite_not, h1, hN, r_brick, e, e', wt, cq, fa_or]
              exact ihj
            · rw [rowP_s (.inl q)] at ihj
              have cq := cd_f.mpr q
              simp (disch := first | omega | assumption | exact rfl) only [U_205_9, U_205_10, U_205_12, XX, QQ, WW, KK, QX, SHs, RRs, Nat.reduceAdd, Nat.reduceMul, Nat.reduceLeDiff, Nat.reduceEqDiff, List.length_cons, List.length_nil, decide_true, decide_false, Bool.true_and, Bool.and_true, Bool.false_and, Bool.and_false, false_and, and_false, Bool.false_eq_true, Bool.true_eq_false, reduceCtorEq, eq_self, if_true, if_false, true_and, and_true, not_true_eq_false, not_false_eq_true, if_pos, if_neg, z_ite_not, h1, hN, r_brick, e, e', wt, cq, fa_or]
              exact ihj
  · intro b hb ih
    rw [U_205_1]
    simp (disch := first | omega | assumption | exact rfl) only [U_205_2, XX, QQ, WW, KK, QX, SHs, RRs, Nat.reduceAdd, Nat.reduceMul, Nat.reduceLeDiff, Nat.reduceEqDiff, List.length_cons, List.length_nil, decide_true, decide_false, Bool.true_and, Bool.and_true, Bool.false_and, Bool.and_false, false_and, and_false, Bool.false_eq_true, Bool.true_eq_false, reduceCtorEq, eq_self, if_true, if_false, true_and, and_true, not_true_eq_false, not_false_eq_true, if_pos, if_neg, z_ite_not, hN, fillI_s]
    exact ih
