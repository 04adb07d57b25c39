/-! ===== cell: places around ===== -/
theorem s_placeOf {X : Nat × (Nat → Int32)} {d : Nat} {M : Mem} {F i : Nat} (hd : 2 ≤ d) (hF : F < 2 ^ 64) (hi : i < pop F) : callF X d 4 [.long (lN F), .int (nI i)] M = some (some (.int (nI (pl F i))), M) := by
  refine callF_at (by omega) (by decide) (Nat.le_of_ble_eq_true rfl) (fun d _ => ?_)
  show Ev X d 4 0 [.long (lN F), .retAddr 0, .int (nI i), .retAddr 0, .retAddr 0] [] M _
  simp (disch := first | omega | assumption | exact rfl) only [U_4_0, XX, QQ, WW, KK, QX, SHs, RRs, Nat.reduceAdd, Nat.reduceMul, Nat.reduceLeDiff, Nat.reduceEqDiff, List.length_cons, List.length_nil, decide_true, decide_false, Bool.true_and, Bool.and_true, Bool.false_and, Bool.and_false, false_and, and_false, Bool.false_eq_true, Bool.true_eq_false, reduceCtorEq, eq_self, if_true, if_false, true_and, and_true, not_true_eq_false, not_false_eq_true, if_pos, if_neg, z_ite_not, false_or, or_false, true_or, or_true, SWs, swk_0, swk_1]
  obtain ⟨p1, p2, p3⟩ := pl_spec hi
  have h64 : pop F ≤ 64 := pop_le F
  refine lp0 (n := 64) (P := fun p => num F p ≤ i → Ev X d 4 1 [.long (lN F), .retAddr 0, .int (nI i), .int (nI (i - num F p)), .int (nI p)] [] M (some (.int (nI (pl F i))), M)) ?_ ?_ (Nat.zero_le _)
  · intro h
    have : num F 64 = pop F := rfl
    omega
  · intro p hp ih hn
    rw [U_4_1]
    by_cases ht : F.testBit p = true
    · have e : num F (p + 1) = num F p + 1 := by unfold num; rw [fb_ct_succ, if_pos ht]
      by_cases hz : i = num F p
      · have : pl F i = p := by rw [hz]; exact pl_num hp ht
        rw [this, hz, Nat.sub_self]
        simp (disch := first | omega | assumption | exact rfl) only [U_4_2, U_4_3, U_4_4, XX, QQ, WW, KK, QX, SHs, RRs, Nat.reduceAdd, Nat.reduceMul, Nat.reduceLeDiff, Nat.reduceEqDiff, List.length_cons, List.length_nil, decide_true, decide_false, Bool.true_and, Bool.and_true, Bool.false_and, Bool.and_false, false_and, and_false, Bool.false_eq_true, Bool.true_eq_false, reduceCtorEq, eq_self, if_true, if_false, true_and, and_true, not_true_eq_false, not_false_eq_true, if_pos, if_neg, z_ite_not, false_or, or_false, true_or, or_true, SWs, swk_0, swk_1, s_has, ht]
      · have q := ih (by omega)
        rw [e, show i - (num F p + 1) = i - num F p - 1 by omega] at q
        simp (disch := first | omega | assumption | exact rfl) only [U_4_2, U_4_3, U_4_5, XX, QQ, WW, KK, QX, SHs, RRs, Nat.reduceAdd, Nat.reduceMul, Nat.reduceLeDiff, Nat.reduceEqDiff, List.length_cons, List.length_nil, decide_true, decide_false, Bool.true_and, Bool.and_true, Bool.false_and, Bool.and_false, false_and, and_false, Bool.false_eq_true, Bool.true_eq_false, reduceCtorEq, eq_self, if_true, if_false, true_and, and_true, not_true_eq_false, not_false_eq_true, if_pos, if_neg, z_ite_not, false_or, or_false, true_or, or_true, SWs, swk_0, swk_1, s_has, ht]
        exact q
    · have ht' : F.testBit p = false := by simpa using ht
      have e : num F (p + 1) = num F p := by unfold num; rw [fb_ct_succ, ht']; simp
      rw [e] at ih
      have q := ih hn
      simp (disch := first | omega | assumption | exact rfl) only [U_4_2, U_4_5, XX, QQ, WW, KK, QX, SHs, RRs, Nat.reduceAdd, Nat.reduceMul, Nat.reduceLeDiff, Nat.reduceEqDiff, List.length_cons, List.length_nil, decide_true, decide_false, Bool.true_and, Bool.and_true, Bool.false_and, Bool.and_false, false_and, and_false, Bool.false_eq_true, Bool.true_eq_false, reduceCtorEq, eq_self, if_true, if_false, true_and, and_true, not_true_eq_false, not_false_eq_true, if_pos, if_neg, z_ite_not, false_or, or_false, true_or, or_true, SWs, swk_0, swk_1, s_has, ht']
      exact q
noncomputable def arN (x : Nat) : Nat := b64 (fun q => ∃ p, p < 64 ∧ x.testBit p = true ∧ adj p q)
theorem m7f : ∀ k, k < 64 → (9187201950435737471 : Nat).testBit k = decide (k % 8 < 7) := by decide +kernel
theorem mfe : ∀ k, k < 64 → (18374403900871474942 : Nat).testBit k = decide (0 < k % 8) := by decide +kernel
theorem lfe : -(lN 72340172838076674) = lN 18374403900871474942 := by decide +kernel
theorem tb_shl (x k j : Nat) : (x * 2 ^ k).testBit j = (decide (k ≤ j) && x.testBit (j - k)) := by
  rw [← Nat.shiftLeft_eq, Nat.testBit_shiftLeft]
theorem rt_lt {x : Nat} (hx : x < 2 ^ 64) : (x &&& 9187201950435737471) * 2 ^ 1 < 2 ^ 64 := by
  have : x &&& 9187201950435737471 ≤ 9187201950435737471 := Nat.and_le_right
  omega
def rtN (x : Nat) : Nat := (x &&& 9187201950435737471) * 2 ^ 1
theorem rtN_tb {x q : Nat} (hx : x < 2 ^ 64) : (rtN x).testBit q = true ↔ ∃ p, x.testBit p = true ∧ q = p + 1 ∧ p % 8 < 7 := by
  unfold rtN
  rw [tb_shl, Nat.testBit_and, Bool.and_eq_true, Bool.and_eq_true, decide_eq_true_iff]
  constructor
  · rintro ⟨h1, h2, h3⟩
    have := tb_lt hx h2
    rw [m7f _ this, decide_eq_true_iff] at h3
    exact ⟨q - 1, h2, by omega, h3⟩
  · rintro ⟨p, h1, h2, h3⟩
    have := tb_lt hx h1
    subst h2
    exact ⟨by omega, by rw [Nat.add_sub_cancel]; exact h1, by rw [Nat.add_sub_cancel, m7f _ this, decide_eq_true_iff]; exact h3⟩
theorem s_rightOf {X : Nat × (Nat → Int32)} {d : Nat} {M : Mem} {x : Nat} (hd : 1 ≤ d) (hx : x < 2 ^ 64) : callF X d 5 [.long (lN x)] M = some (some (.long (lN (rtN x))), M) := by
  refine callF_at (by omega) (by decide) (Nat.le_of_ble_eq_true rfl) (fun d _ => ?_)
  show Ev X d 5 0 [.long (lN x), .retAddr 0] [] M _
  simp (disch := first | omega | assumption | exact rfl) only [U_5_0, XX, QQ, WW, KK, QX, SHs, RRs, Nat.reduceAdd, Nat.reduceMul, Nat.reduceLeDiff, Nat.reduceEqDiff, List.length_cons, List.length_nil, decide_true, decide_false, Bool.true_and, Bool.and_true, Bool.false_and, Bool.and_false, false_and, and_false, Bool.false_eq_true, Bool.true_eq_false, reduceCtorEq, eq_self, if_true, if_false, true_and, and_true, not_true_eq_false, not_false_eq_true, if_pos, if_neg, z_ite_not, false_or, or_false, true_or, or_true, SWs, swk_0, swk_1, fb_andL]
  rfl
theorem arN_eq {x : Nat} (hx : x < 2 ^ 64) : rtN x ||| (x &&& 18374403900871474942) / 2 ^ 1 ||| x * 2 ^ 8 % 2 ^ 64 ||| x / 2 ^ 8 = arN x := nat_ext (fun q => by
  unfold arN
  rw [b64_tb, Nat.testBit_or, Nat.testBit_or, Nat.testBit_or, Bool.or_eq_true, Bool.or_eq_true, Bool.or_eq_true, rtN_tb hx, Nat.testBit_div_two_pow, Nat.testBit_div_two_pow, Nat.testBit_mod_two_pow, tb_shl, Nat.testBit_and, Bool.and_eq_true, Bool.and_eq_true, Bool.and_eq_true, decide_eq_true_iff, decide_eq_true_iff]
  constructor
  · rintro (((⟨p, h1, h2, h3⟩ | ⟨h1, h2⟩) | ⟨h1, h2, h3⟩) | h1)
    · have := tb_lt hx h1
      exact ⟨by omega, p, this, h1, .inl ⟨h2, h3⟩⟩
    · have := tb_lt hx h1
      rw [mfe _ this, decide_eq_true_iff] at h2
      exact ⟨by omega, q + 1, this, h1, .inr (.inl ⟨rfl, by omega⟩)⟩
    · exact ⟨h1, q - 8, by omega, h3, .inr (.inr (.inl (by omega)))⟩
    · have := tb_lt hx h1
      exact ⟨by omega, q + 8, this, h1, .inr (.inr (.inr rfl))⟩
  · rintro ⟨h0, p, hp, h1, ⟨h2, h3⟩ | ⟨h2, h3⟩ | h2 | h2⟩
    · exact .inl (.inl (.inl ⟨p, h1, h2, h3⟩))
    · refine .inl (.inl (.inr ⟨by rw [← h2]; exact h1, ?_⟩))
      rw [← h2, mfe _ hp, decide_eq_true_iff]; omega
    · exact .inl (.inr ⟨h0, by omega, by rw [show q - 8 = p by omega]; exact h1⟩)
    · exact .inr (by rw [← h2]; exact h1))
theorem arN_lt (x : Nat) : arN x < 2 ^ 64 := b64_lt _
theorem s_around {X : Nat × (Nat → Int32)} {d : Nat} {M : Mem} {x : Nat} (hd : 2 ≤ d) (hx : x < 2 ^ 64) : callF X d 6 [.long (lN x)] M = some (some (.long (lN (arN x))), M) := by
  refine callF_at (by omega) (by decide) (Nat.le_of_ble_eq_true rfl) (fun d _ => ?_)
  show Ev X d 6 0 [.long (lN x), .retAddr 0] [] M _
  have h1 : x &&& 18374403900871474942 < 2 ^ 64 := Nat.lt_of_le_of_lt Nat.and_le_left hx
  have h2 : lN (x * 2 ^ 8) = lN (x * 2 ^ 8 % 2 ^ 64) := wb_mod _
  simp (disch := first | omega | assumption | exact rfl) only [U_6_0, XX, QQ, WW, KK, QX, SHs, RRs, Nat.reduceAdd, Nat.reduceMul, Nat.reduceLeDiff, Nat.reduceEqDiff, List.length_cons, List.length_nil, decide_true, decide_false, Bool.true_and, Bool.and_true, Bool.false_and, Bool.and_false, false_and, and_false, Bool.false_eq_true, Bool.true_eq_false, reduceCtorEq, eq_self, if_true, if_false, true_and, and_true, not_true_eq_false, not_false_eq_true, if_pos, if_neg, z_ite_not, false_or, or_false, true_or, or_true, SWs, swk_0, swk_1, s_rightOf, lfe, fb_andL, fb_orL, h2]
  rw [arN_eq hx]
theorem ct_pl {F : Nat} {Q : Nat → Bool} : ∀ p, p ≤ 64 → fb_ct (fun q => F.testBit q && Q q) p = fb_ct (fun j => Q (pl F j)) (num F p)
  | 0, _ => rfl
  | p + 1, h => by
    rw [fb_ct_succ, ct_pl p (by omega)]
    by_cases ht : F.testBit p = true
    · have e : num F (p + 1) = num F p + 1 := by unfold num; rw [fb_ct_succ, if_pos ht]
      rw [e, fb_ct_succ, pl_num (by omega) ht, ht, Bool.true_and]
    · have ht' : F.testBit p = false := by simpa using ht
      have e : num F (p + 1) = num F p := by unfold num; rw [fb_ct_succ, ht']; simp
      rw [e, ht']; simp
theorem pop_pl {F x : Nat} {Q : Nat → Prop} (h : ∀ q, q < 64 → (x.testBit q = true ↔ F.testBit q = true ∧ Q q)) : pop x = fb_ct (fun j => cd (Q (pl F j))) (pop F) := by
  have := ct_pl (F := F) (Q := fun q => cd (Q q)) 64 (by omega)
  show fb_ct x.testBit 64 = fb_ct (fun j => cd (Q (pl F j))) (num F 64)
  rw [← this]
  refine fb_ct_cong (fun k hk => ?_)
  rw [Bool.eq_iff_iff, Bool.and_eq_true, cd_iff]
  exact h k hk
theorem tb_one {p q : Nat} : (1 * 2 ^ p).testBit q = decide (p = q) := by rw [Nat.one_mul, Nat.testBit_two_pow]
theorem r_cell {X : Nat × (Nat → Int32)} {d : Nat} {I : Nat → Nat → Int32} {J : Nat → Nat → Int64} {s F i c : Nat} (hd : 3 ≤ d) (hs : s < 6) (hR : RSh (I 178) s F) (hi : i < pop F) (hc : c < 4) : callF X d 196 [.ref 177, .int (nI s), .int (nI i), .int (nI c)] (mk I J) = some (some (.int (if c = 0 then nI (pl F i % 8) else if c = 1 then nI (pl F i / 8) else if c = 2 then nI (fb_ct (fun j => cd (adj (pl F i) (pl F j))) (pop F)) else tch F i 3)), mk I J) := by
  have hR0 := hR
  obtain ⟨h24, h1, h2⟩ := hR
  have e1 := (h2 i hi).1; have e2 := (h2 i hi).2
  obtain ⟨p1, p2, p3⟩ := pl_spec hi
  refine callF_at (by omega) (by decide) (Nat.le_of_ble_eq_true rfl) (fun d _ => ?_)
  show Ev X d 196 0 [.ref 177, .int (nI s), .int (nI i), .int (nI c), .retAddr 0, .retAddr 0, .retAddr 0, .retAddr 0, .retAddr 0] [] ( mk I J) _
  have sh := r_isShape (X := X) (d := d) (M := mk I J) (v := nI s) (by omega)
  by_cases c0 : c = 0
  · subst c0
    simp (disch := first | omega | assumption | exact rfl) only [U_196_0, U_196_1, U_196_2, U_196_3, U_196_4, U_196_5, U_196_6, U_196_7, U_196_8, XX, QQ, WW, KK, QX, SHs, RRs, Nat.reduceAdd, Nat.reduceMul, Nat.reduceLeDiff, Nat.reduceEqDiff, List.length_cons, List.length_nil, decide_true, decide_false, Bool.true_and, Bool.and_true, Bool.false_and, Bool.and_false, false_and, and_false, Bool.false_eq_true, Bool.true_eq_false, reduceCtorEq, eq_self, if_true, if_false, true_and, and_true, not_true_eq_false, not_false_eq_true, if_pos, if_neg, z_ite_not, false_or, or_false, true_or, or_true, SWs, swk_0, swk_1, sh, r_isIn, h1, e1, e2]
  by_cases c1 : c = 1
  · subst c1
    simp (disch := first | omega | assumption | exact rfl) only [U_196_0, U_196_1, U_196_2, U_196_3, U_196_4, U_196_5, U_196_6, U_196_7, U_196_8, XX, QQ, WW, KK, QX, SHs, RRs, Nat.reduceAdd, Nat.reduceMul, Nat.reduceLeDiff, Nat.reduceEqDiff, List.length_cons, List.length_nil, decide_true, decide_false, Bool.true_and, Bool.and_true, Bool.false_and, Bool.and_false, false_and, and_false, Bool.false_eq_true, Bool.true_eq_false, reduceCtorEq, eq_self, if_true, if_false, true_and, and_true, not_true_eq_false, not_false_eq_true, if_pos, if_neg, z_ite_not, false_or, or_false, true_or, or_true, SWs, swk_0, swk_1, sh, r_isIn, h1, e1, e2]
  rw [if_neg c0, if_neg c1]
  simp (disch := first | omega | assumption | exact rfl) only [U_196_0, U_196_1, U_196_2, U_196_3, U_196_4, U_196_5, U_196_6, U_196_7, U_196_8, U_196_9, XX, QQ, WW, KK, QX, SHs, RRs, Nat.reduceAdd, Nat.reduceMul, Nat.reduceLeDiff, Nat.reduceEqDiff, List.length_cons, List.length_nil, decide_true, decide_false, Bool.true_and, Bool.and_true, Bool.false_and, Bool.and_false, false_and, and_false, Bool.false_eq_true, Bool.true_eq_false, reduceCtorEq, eq_self, if_true, if_false, true_and, and_true, not_true_eq_false, not_false_eq_true, if_pos, if_neg, z_ite_not, false_or, or_false, true_or, or_true, SWs, swk_0, swk_1, sh, r_isIn, h1, e1, e2]
  obtain ⟨T, hT⟩ : ∃ T : Nat → Int32, T = fun j => if cd (∃ j', j' < j ∧ pl F j' + 8 = pl F i) = true then tch F i 3 else -1 := ⟨_, rfl⟩
  have T0 : T 0 = -1 := by rw [hT]; exact if_neg (by rw [cd_iff]; rintro ⟨j, h, _⟩; omega)
  have Tn : T (pop F) = tch F i 3 := by
    rw [hT]
    show (if _ then _ else _) = _
    by_cases z : ∃ j', j' < pop F ∧ pl F j' + 8 = pl F i
    · rw [if_pos (cd_iff.mpr z)]
    · rw [if_neg (fun y => z (cd_iff.mp y))]
      refine (tch_no (fun j hj e => z ⟨j, hj, ?_⟩) hi).symm
      simp only [nbp] at e
      split at e
      · have := Option.some.inj e; omega
      · cases e
  have hcl := fun j => fb_ct_le (fun j => cd (adj (pl F i) (pl F j))) j
  refine lpI (n := pop F) (P := fun j => Ev X d 196 10 [.ref 177, .int (nI s), .int (nI i), .int (nI c), .int (nI (pl F i % 8)), .int (nI (pl F i / 8)), .int (nI (fb_ct (fun j => cd (adj (pl F i) (pl F j))) j)), .int (T j), .int (nI j)] [] (mk I J) (some (.int (if c = 2 then nI (fb_ct (fun j => cd (adj (pl F i) (pl F j))) (pop F)) else tch F i 3)), mk I J)) ?_ ?_ (fun L => by rw [T0] at L; exact L)
  · rw [U_196_10, Tn]
    by_cases c2 : c = 2
    · subst c2
      simp (disch := first | omega | assumption | exact rfl) only [U_196_18, U_196_19, U_196_20, U_196_21, XX, QQ, WW, KK, QX, SHs, RRs, Nat.reduceAdd, Nat.reduceMul, Nat.reduceLeDiff, Nat.reduceEqDiff, List.length_cons, List.length_nil, decide_true, decide_false, Bool.true_and, Bool.and_true, Bool.false_and, Bool.and_false, false_and, and_false, Bool.false_eq_true, Bool.true_eq_false, reduceCtorEq, eq_self, if_true, if_false, true_and, and_true, not_true_eq_false, not_false_eq_true, if_pos, if_neg, z_ite_not, false_or, or_false, true_or, or_true, SWs, swk_0, swk_1, h1]
    · rw [if_neg c2]
      simp (disch := first | omega | assumption | exact rfl) only [U_196_18, U_196_19, U_196_20, U_196_21, XX, QQ, WW, KK, QX, SHs, RRs, Nat.reduceAdd, Nat.reduceMul, Nat.reduceLeDiff, Nat.reduceEqDiff, List.length_cons, List.length_nil, decide_true, decide_false, Bool.true_and, Bool.and_true, Bool.false_and, Bool.and_false, false_and, and_false, Bool.false_eq_true, Bool.true_eq_false, reduceCtorEq, eq_self, if_true, if_false, true_and, and_true, not_true_eq_false, not_false_eq_true, if_pos, if_neg, z_ite_not, false_or, or_false, true_or, or_true, SWs, swk_0, swk_1, h1]
  · intro j hj ih
    rw [U_196_10]
    have e3 := (h2 j hj).1; have e4 := (h2 j hj).2
    obtain ⟨p4, p5, p6⟩ := pl_spec hj
    have wt := r_shapeTouch (X := X) (d := d) (J := J) (by omega) hs hR0 hi hj
    have hl := hcl j
    rw [fb_ct_succ] at ih
    by_cases z : pl F j + 8 = pl F i
    · have z1 : pl F j % 8 = pl F i % 8 := by omega
      have z2 : pl F j / 8 = pl F i / 8 - 1 := by omega
      have ez : T (j + 1) = nI j := by
        rw [hT]
        show (if _ then _ else _) = _
        rw [if_pos (cd_iff.mpr ⟨j, by omega, z⟩)]
        refine tch_of hj ?_
        simp only [nbp]
        rw [if_pos (by omega)]; exact congrArg some (by omega)
      rw [ez] at ih
      by_cases q : adj (pl F i) (pl F j)
      · have cq := cd_iff.mpr q
        rw [cq] at wt ih
        simp (disch := first | omega | assumption | exact rfl) only [U_196_11, U_196_12, U_196_13, U_196_14, U_196_15, U_196_16, U_196_17, XX, QQ, WW, KK, QX, SHs, RRs, Nat.reduceAdd, Nat.reduceMul, Nat.reduceLeDiff, Nat.reduceEqDiff, List.length_cons, List.length_nil, decide_true, decide_false, Bool.true_and, Bool.and_true, Bool.false_and, Bool.and_false, false_and, and_false, Bool.false_eq_true, Bool.true_eq_false, reduceCtorEq, eq_self, if_true, if_false, true_and, and_true, not_true_eq_false, not_false_eq_true, if_pos, if_neg, z_ite_not, false_or, or_false, true_or, or_true, SWs, swk_0, swk_1, h1, wt, e3, e4] at ih ⊢
        exact ih
      · have cq := cd_f.mpr q
        rw [cq] at wt ih
        simp (disch := first | omega | assumption | exact rfl) only [U_196_11, U_196_12, U_196_13, U_196_14, U_196_15, U_196_16, U_196_17, XX, QQ, WW, KK, QX, SHs, RRs, Nat.reduceAdd, Nat.reduceMul, Nat.reduceLeDiff, Nat.reduceEqDiff, List.length_cons, List.length_nil, decide_true, decide_false, Bool.true_and, Bool.and_true, Bool.false_and, Bool.and_false, false_and, and_false, Bool.false_eq_true, Bool.true_eq_false, reduceCtorEq, eq_self, if_true, if_false, true_and, and_true, not_true_eq_false, not_false_eq_true, if_pos, if_neg, z_ite_not, false_or, or_false, true_or, or_true, SWs, swk_0, swk_1, h1, wt, e3, e4, Nat.add_zero] at ih ⊢
        exact ih
    · have ez : T (j + 1) = T j := by
        rw [hT]
        show (if _ then _ else _) = (if _ then _ else _)
        have : cd (∃ j', j' < j + 1 ∧ pl F j' + 8 = pl F i) = cd (∃ j', j' < j ∧ pl F j' + 8 = pl F i) := by
          rw [Bool.eq_iff_iff, cd_iff, cd_iff]
          constructor
          · rintro ⟨j', a, b⟩
            by_cases y : j' = j
            · subst y; exact absurd b z
            · exact ⟨j', by omega, b⟩
          · rintro ⟨j', a, b⟩; exact ⟨j', by omega, b⟩
        rw [this]
      rw [ez] at ih
      have fin : ∀ (b : Bool), cd (adj (pl F i) (pl F j)) = b → Ev X d 196 10 [.ref 177, .int (nI s), .int (nI i), .int (nI c), .int (nI (pl F i % 8)), .int (nI (pl F i / 8)), .int (nI (fb_ct (fun j => cd (adj (pl F i) (pl F j))) j + (if b = true then 1 else 0))), .int (T j), .int (nI (j + 1))] [] (mk I J) (some (.int (if c = 2 then nI (fb_ct (fun j => cd (adj (pl F i) (pl F j))) (pop F)) else tch F i 3)), mk I J) := fun b hb => by rw [hb] at ih; exact ih
      by_cases y1 : pl F j % 8 = pl F i % 8
      · have y2 : ¬ nI (pl F j / 8) = nI (pl F i / 8) - nI 1 := by
          intro y
          by_cases w : 1 ≤ pl F i / 8
          · rw [q_sub w] at y
            have := nI_inj (by omega) (by omega) y
            omega
          · have w0 : pl F i / 8 = 0 := by omega
            rw [w0] at y
            have e : nI 0 - nI 1 = (-1 : Int32) := by decide +kernel
            rw [e] at y
            exact nI_ne (by omega) y
        by_cases q : adj (pl F i) (pl F j)
        · have cq := cd_iff.mpr q
          have f := fin true cq
          rw [cq] at wt
          rw [if_pos rfl] at f
          simp (disch := first | omega | assumption | exact rfl) only [U_196_11, U_196_12, U_196_13, U_196_14, U_196_15, U_196_16, U_196_17, XX, q_le, q_eq, q_add, q_mul, q_inb, q_cl, q_bI0, KK, SHs, RRs, h1, wt, e3, e4, y1, y2, if_true, if_false, eq_self, true_and, and_true, not_true_eq_false, not_false_eq_true, if_pos, if_neg, Bool.true_eq_false, List.length_cons, List.length_nil, Nat.reduceAdd, Nat.reduceLeDiff]
          exact f
        · have cq := cd_f.mpr q
          have f := fin false cq
          rw [cq] at wt
          rw [if_neg (by simp), Nat.add_zero] at f
          simp (disch := first | omega | assumption | exact rfl) only [U_196_11, U_196_12, U_196_13, U_196_14, U_196_15, U_196_16, U_196_17, XX, q_le, q_eq, q_add, q_mul, q_inb, q_cl, q_bI0, KK, SHs, RRs, h1, wt, e3, e4, y1, y2, if_true, if_false, eq_self, true_and, and_true, not_true_eq_false, not_false_eq_true, if_pos, if_neg, Bool.true_eq_false, List.length_cons, List.length_nil, Nat.reduceAdd, Nat.reduceLeDiff, Nat.add_zero]
          exact f
      · by_cases q : adj (pl F i) (pl F j)
        · have cq := cd_iff.mpr q
          have f := fin true cq
          rw [cq] at wt
          rw [if_pos rfl] at f
          simp (disch := first | omega | assumption | exact rfl) only [U_196_11, U_196_12, U_196_13, U_196_14, U_196_15, U_196_16, U_196_17, XX, QQ, WW, KK, QX, SHs, RRs, Nat.reduceAdd, Nat.reduceMul, Nat.reduceLeDiff, Nat.reduceEqDiff, List.length_cons, List.length_nil, decide_true, decide_false, Bool.true_and, Bool.and_true, Bool.false_and, Bool.and_false, false_and, and_false, Bool.false_eq_true, Bool.true_eq_false, reduceCtorEq, eq_self, if_true, if_false, true_and, and_true, not_true_eq_false, not_false_eq_true, if_pos, if_neg, z_ite_not, false_or, or_false, true_or, or_true, SWs, swk_0, swk_1, h1, wt, e3, e4, y1]
          exact f
        · have cq := cd_f.mpr q
          have f := fin false cq
          rw [cq] at wt
          rw [if_neg (by simp), Nat.add_zero] at f
          simp (disch := first | omega | assumption | exact rfl) only [U_196_11, U_196_12, U_196_13, U_196_14, U_196_15, U_196_16, U_196_17, XX, QQ, WW, KK, QX, SHs, RRs, Nat.reduceAdd, Nat.reduceMul, Nat.reduceLeDiff, Nat.reduceEqDiff, List.length_cons, List.length_nil, decide_true, decide_false, Bool.true_and, Bool.and_true, Bool.false_and, Bool.and_false, false_and, and_false, Bool.false_eq_true, Bool.true_eq_false, reduceCtorEq, eq_self, if_true, if_false, true_and, and_true, not_true_eq_false, not_false_eq_true, if_pos, if_neg, z_ite_not, false_or, or_false, true_or, or_true, SWs, swk_0, swk_1, h1, wt, e3, e4, y1, Nat.add_zero]
          exact f
theorem b_cell {X : Nat × (Nat → Int32)} {d : Nat} {I : Nat → Nat → Int32} {J : Nat → Nat → Int64} {u v w : Int32} (hd : 4 ≤ d) (h : Inv I J) : Both X d 119 196 [.int u, .int v, .int w] I J := by
  obtain ⟨FS, hs⟩ := Inv_sh h
  rcases of_d u 5 6 rfl (by decide) with ⟨s, hs6, rfl⟩ | ⟨o1, o2⟩
  · obtain ⟨hF, hJ, hR⟩ := hs s hs6
    have h24 := hR.1
    have h1 := hR.2.1
    rcases of_e v (pop (FS s)) (by omega) with ⟨i, hi, rfl⟩ | ⟨o1, o2⟩
    · obtain ⟨p1, p2, p3⟩ := pl_spec hi
      rcases of_d w 3 4 rfl (by decide) with ⟨c, hc, rfl⟩ | ⟨o1, o2⟩
      · refine Both_0 (if c = 0 then nI (pl (FS s) i % 8) else if c = 1 then nI (pl (FS s) i / 8) else if c = 2 then nI (fb_ct (fun j => cd (adj (pl (FS s) i) (pl (FS s) j))) (pop (FS s))) else tch (FS s) i 3) h ?_ (r_cell (by omega) hs6 hR hi hc)
        · refine callF_at (by omega) (by decide) (Nat.le_of_ble_eq_true rfl) (fun d _ => ?_)
          show Ev X d 119 0 [.ref 0, .int (nI s), .int (nI i), .int (nI c), .retAddr 0, .retAddr 0, .retAddr 0] [] ( mk I J) _
          have pp := s_placeOf (X := X) (d := d) (M := mk I J) (by omega) hF hi
          obtain rfl | rfl | rfl | rfl : c = 0 ∨ c = 1 ∨ c = 2 ∨ c = 3 := by omega
          · simp (disch := first | omega | assumption | exact rfl) only [U_119_0, U_119_1, U_119_2, U_119_3, U_119_4, U_119_5, U_119_6, U_119_7, U_119_8, U_119_9, U_119_10, U_119_11, XX, QQ, WW, KK, QX, SHs, RRs, Nat.reduceAdd, Nat.reduceMul, Nat.reduceLeDiff, Nat.reduceEqDiff, List.length_cons, List.length_nil, decide_true, decide_false, Bool.true_and, Bool.and_true, Bool.false_and, Bool.and_false, false_and, and_false, Bool.false_eq_true, Bool.true_eq_false, reduceCtorEq, eq_self, if_true, if_false, true_and, and_true, not_true_eq_false, not_false_eq_true, if_pos, if_neg, z_ite_not, false_or, or_false, true_or, or_true, SWs, swk_0, swk_1, s_isOf, s_cellsOf, hJ, pp, s_xOf]
          · simp (disch := first | omega | assumption | exact rfl) only [U_119_0, U_119_1, U_119_2, U_119_3, U_119_4, U_119_5, U_119_6, U_119_7, U_119_8, U_119_9, U_119_10, U_119_11, XX, QQ, WW, KK, QX, SHs, RRs, Nat.reduceAdd, Nat.reduceMul, Nat.reduceLeDiff, Nat.reduceEqDiff, List.length_cons, List.length_nil, decide_true, decide_false, Bool.true_and, Bool.and_true, Bool.false_and, Bool.and_false, false_and, and_false, Bool.false_eq_true, Bool.true_eq_false, reduceCtorEq, eq_self, if_true, if_false, true_and, and_true, not_true_eq_false, not_false_eq_true, if_pos, if_neg, z_ite_not, false_or, or_false, true_or, or_true, SWs, swk_0, swk_1, s_isOf, s_cellsOf, hJ, pp, s_yOf]
          · have a1 : 1 * 2 ^ pl (FS s) i < 2 ^ 64 := by rw [Nat.one_mul]; exact pw_lt p1
            have a2 : FS s &&& arN (1 * 2 ^ pl (FS s) i) < 2 ^ 64 := Nat.lt_of_le_of_lt Nat.and_le_left hF
            have ar := s_around (X := X) (d := d) (M := mk I J) (by omega) a1
            have bc := s_bcL (X := X) (d := d) (M := mk I J) (by omega) a2
            rw [pop_pl (F := FS s) (Q := fun q => adj (pl (FS s) i) q) (fun q hq => by
              rw [Nat.testBit_and, Bool.and_eq_true]
              unfold arN
              rw [b64_tb]
              constructor
              · rintro ⟨z1, z2, p, z3, z4, z5⟩
                rw [tb_one, decide_eq_true_iff] at z4
                rw [z4]; exact ⟨z1, z5⟩
              · rintro ⟨z1, z2⟩
                exact ⟨z1, hq, _, p1, by rw [tb_one, decide_eq_true_iff], z2⟩)] at bc
            simp (disch := first | omega | assumption | exact rfl) only [U_119_0, U_119_1, U_119_2, U_119_3, U_119_4, U_119_5, U_119_6, U_119_7, U_119_8, U_119_9, U_119_10, U_119_11, XX, QQ, WW, KK, QX, SHs, RRs, Nat.reduceAdd, Nat.reduceMul, Nat.reduceLeDiff, Nat.reduceEqDiff, List.length_cons, List.length_nil, decide_true, decide_false, Bool.true_and, Bool.and_true, Bool.false_and, Bool.and_false, false_and, and_false, Bool.false_eq_true, Bool.true_eq_false, reduceCtorEq, eq_self, if_true, if_false, true_and, and_true, not_true_eq_false, not_false_eq_true, if_pos, if_neg, z_ite_not, false_or, or_false, true_or, or_true, SWs, swk_0, swk_1, s_isOf, s_cellsOf, hJ, pp, ar, fb_andL, bc]
          · have n3 : tch (FS s) i 3 = if 8 ≤ pl (FS s) i then atF (FS s) (some (pl (FS s) i - 8)) else -1 := by simp only [tch, nbp]; split <;> simp only [atF]
            rw [if_neg (by decide), if_neg (by decide), if_neg (by decide), n3]
            by_cases k8 : 8 ≤ pl (FS s) i
            · cases ht : (FS s).testBit (pl (FS s) i - 8) with
              | true => simp (disch := first | omega | assumption | exact rfl) only [U_119_0, U_119_1, U_119_2, U_119_3, U_119_4, U_119_5, U_119_6, U_119_7, U_119_8, U_119_9, U_119_10, U_119_11, XX, QQ, WW, KK, QX, SHs, RRs, Nat.reduceAdd, Nat.reduceMul, Nat.reduceLeDiff, Nat.reduceEqDiff, List.length_cons, List.length_nil, decide_true, decide_false, Bool.true_and, Bool.and_true, Bool.false_and, Bool.and_false, false_and, and_false, Bool.false_eq_true, Bool.true_eq_false, reduceCtorEq, eq_self, if_true, if_false, true_and, and_true, not_true_eq_false, not_false_eq_true, if_pos, if_neg, z_ite_not, false_or, or_false, true_or, or_true, SWs, swk_0, swk_1, s_isOf, s_cellsOf, hJ, pp, s_has, s_num, ht, atF]
              | false => simp (disch := first | omega | assumption | exact rfl) only [U_119_0, U_119_1, U_119_2, U_119_3, U_119_4, U_119_5, U_119_6, U_119_7, U_119_8, U_119_9, U_119_10, U_119_11, XX, QQ, WW, KK, QX, SHs, RRs, Nat.reduceAdd, Nat.reduceMul, Nat.reduceLeDiff, Nat.reduceEqDiff, List.length_cons, List.length_nil, decide_true, decide_false, Bool.true_and, Bool.and_true, Bool.false_and, Bool.and_false, false_and, and_false, Bool.false_eq_true, Bool.true_eq_false, reduceCtorEq, eq_self, if_true, if_false, true_and, and_true, not_true_eq_false, not_false_eq_true, if_pos, if_neg, z_ite_not, false_or, or_false, true_or, or_true, SWs, swk_0, swk_1, s_isOf, s_cellsOf, hJ, pp, s_has, s_num, ht, atF]
            · have hv : nI (pl (FS s) i) - nI 8 < 0 := by
                rw [Int32.lt_iff_toInt_lt, fb_subI] <;> rw [nI_toInt (by omega), nI_toInt (by omega)] <;> simp <;> omega
              simp (disch := first | omega | assumption | exact rfl) only [U_119_0, U_119_1, U_119_2, U_119_3, U_119_4, U_119_5, U_119_6, U_119_7, U_119_8, U_119_9, U_119_10, U_119_11, XX, QQ, WW, KK, QX, SHs, RRs, Nat.reduceAdd, Nat.reduceMul, Nat.reduceLeDiff, Nat.reduceEqDiff, List.length_cons, List.length_nil, decide_true, decide_false, Bool.true_and, Bool.and_true, Bool.false_and, Bool.and_false, false_and, and_false, Bool.false_eq_true, Bool.true_eq_false, reduceCtorEq, eq_self, if_true, if_false, true_and, and_true, not_true_eq_false, not_false_eq_true, if_pos, if_neg, z_ite_not, false_or, or_false, true_or, or_true, SWs, swk_0, swk_1, s_isOf, s_cellsOf, hJ, pp, s_has_neg, s_num]
      · have nc : ∀ c, c < 4 → ¬ w = nI c := fun c hc z => by
          subst z
          have a1 := nI_pos' (show c < 2 ^ 31 by omega)
          have a2 := nI_lt hc (by decide)
          simp [a1, a2] at o1
        have c0 := nc 0 (by decide); have c1 := nc 1 (by decide); have c2 := nc 2 (by decide); have c3 := nc 3 (by decide)
        refine Both_0 (-2) h ?_ ?_
        · refine callF_at (by omega) (by decide) (Nat.le_of_ble_eq_true rfl) (fun d _ => ?_)
          show Ev X d 119 0 [.ref 0, .int (nI s), .int (nI i), .int w, .retAddr 0, .retAddr 0, .retAddr 0] [] ( mk I J) _
          have pp := s_placeOf (X := X) (d := d) (M := mk I J) (by omega) hF hi
          simp (disch := first | omega | assumption | exact rfl) only [U_119_0, U_119_1, U_119_2, U_119_3, U_119_4, U_119_5, U_119_6, U_119_7, U_119_8, U_119_9, U_119_10, U_119_11, XX, QQ, WW, KK, QX, SHs, RRs, Nat.reduceAdd, Nat.reduceMul, Nat.reduceLeDiff, Nat.reduceEqDiff, List.length_cons, List.length_nil, decide_true, decide_false, Bool.true_and, Bool.and_true, Bool.false_and, Bool.and_false, false_and, and_false, Bool.false_eq_true, Bool.true_eq_false, reduceCtorEq, eq_self, if_true, if_false, true_and, and_true, not_true_eq_false, not_false_eq_true, if_pos, if_neg, z_ite_not, false_or, or_false, true_or, or_true, SWs, swk_0, swk_1, s_isOf, s_cellsOf, hJ, pp, c0, c1, c2, c3]
        · refine callF_at (by omega) (by decide) (Nat.le_of_ble_eq_true rfl) (fun d _ => ?_)
          show Ev X d 196 0 [.ref 177, .int (nI s), .int (nI i), .int w, .retAddr 0, .retAddr 0, .retAddr 0, .retAddr 0, .retAddr 0] [] ( mk I J) _
          have sh := r_isShape (X := X) (d := d) (M := mk I J) (v := nI s) (by omega)
          simp (disch := first | omega | assumption | exact rfl) only [U_196_0, U_196_1, U_196_2, U_196_3, XX, QQ, WW, KK, QX, SHs, RRs, Nat.reduceAdd, Nat.reduceMul, Nat.reduceLeDiff, Nat.reduceEqDiff, List.length_cons, List.length_nil, decide_true, decide_false, Bool.true_and, Bool.and_true, Bool.false_and, Bool.and_false, false_and, and_false, Bool.false_eq_true, Bool.true_eq_false, reduceCtorEq, eq_self, if_true, if_false, true_and, and_true, not_true_eq_false, not_false_eq_true, if_pos, if_neg, z_ite_not, false_or, or_false, true_or, or_true, SWs, swk_0, swk_1, sh, r_isIn, h1, o2]
    · refine Both_0 (-2) h ?_ ?_
      · refine callF_at (by omega) (by decide) (Nat.le_of_ble_eq_true rfl) (fun d _ => ?_)
        show Ev X d 119 0 [.ref 0, .int (nI s), .int v, .int w, .retAddr 0, .retAddr 0, .retAddr 0] [] ( mk I J) _
        simp (disch := first | omega | assumption | exact rfl) only [U_119_0, U_119_1, U_119_2, XX, QQ, WW, KK, QX, SHs, RRs, Nat.reduceAdd, Nat.reduceMul, Nat.reduceLeDiff, Nat.reduceEqDiff, List.length_cons, List.length_nil, decide_true, decide_false, Bool.true_and, Bool.and_true, Bool.false_and, Bool.and_false, false_and, and_false, Bool.false_eq_true, Bool.true_eq_false, reduceCtorEq, eq_self, if_true, if_false, true_and, and_true, not_true_eq_false, not_false_eq_true, if_pos, if_neg, z_ite_not, false_or, or_false, true_or, or_true, SWs, swk_0, swk_1, s_isOf, s_cellsOf, hJ, o1]
      · refine callF_at (by omega) (by decide) (Nat.le_of_ble_eq_true rfl) (fun d _ => ?_)
        show Ev X d 196 0 [.ref 177, .int (nI s), .int v, .int w, .retAddr 0, .retAddr 0, .retAddr 0, .retAddr 0, .retAddr 0] [] ( mk I J) _
        have sh := r_isShape (X := X) (d := d) (M := mk I J) (v := nI s) (by omega)
        simp (disch := first | omega | assumption | exact rfl) only [U_196_0, U_196_1, U_196_2, U_196_3, XX, QQ, WW, KK, QX, SHs, RRs, Nat.reduceAdd, Nat.reduceMul, Nat.reduceLeDiff, Nat.reduceEqDiff, List.length_cons, List.length_nil, decide_true, decide_false, Bool.true_and, Bool.and_true, Bool.false_and, Bool.and_false, false_and, and_false, Bool.false_eq_true, Bool.true_eq_false, reduceCtorEq, eq_self, if_true, if_false, true_and, and_true, not_true_eq_false, not_false_eq_true, if_pos, if_neg, z_ite_not, false_or, or_false, true_or, or_true, SWs, swk_0, swk_1, sh, r_isIn, h1, o2]
  · refine Both_0 (-2) h ?_ ?_
    · refine callF_at (by omega) (by decide) (Nat.le_of_ble_eq_true rfl) (fun d _ => ?_)
      show Ev X d 119 0 [.ref 0, .int u, .int v, .int w, .retAddr 0, .retAddr 0, .retAddr 0] [] ( mk I J) _
      simp (disch := first | omega | assumption | exact rfl) only [U_119_0, U_119_1, U_119_2, XX, QQ, WW, KK, QX, SHs, RRs, Nat.reduceAdd, Nat.reduceMul, Nat.reduceLeDiff, Nat.reduceEqDiff, List.length_cons, List.length_nil, decide_true, decide_false, Bool.true_and, Bool.and_true, Bool.false_and, Bool.and_false, false_and, and_false, Bool.false_eq_true, Bool.true_eq_false, reduceCtorEq, eq_self, if_true, if_false, true_and, and_true, not_true_eq_false, not_false_eq_true, if_pos, if_neg, z_ite_not, false_or, or_false, true_or, or_true, SWs, swk_0, swk_1, s_isOf, o1]
    · refine callF_at (by omega) (by decide) (Nat.le_of_ble_eq_true rfl) (fun d _ => ?_)
      show Ev X d 196 0 [.ref 177, .int u, .int v, .int w, .retAddr 0, .retAddr 0, .retAddr 0, .retAddr 0, .retAddr 0] [] ( mk I J) _
      simp (disch := first | omega | assumption | exact rfl) only [U_196_0, U_196_1, U_196_2, U_196_3, XX, QQ, WW, KK, QX, SHs, RRs, Nat.reduceAdd, Nat.reduceMul, Nat.reduceLeDiff, Nat.reduceEqDiff, List.length_cons, List.length_nil, decide_true, decide_false, Bool.true_and, Bool.and_true, Bool.false_and, Bool.and_false, false_and, and_false, Bool.false_eq_true, Bool.true_eq_false, reduceCtorEq, eq_self, if_true, if_false, true_and, and_true, not_true_eq_false, not_false_eq_true, if_pos, if_neg, z_ite_not, false_or, or_false, true_or, or_true, SWs, swk_0, swk_1, r_isShape, o2]
