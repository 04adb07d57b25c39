/-! ===== met ===== -/
theorem ct_kth {p Q : Nat → Bool} {N : Nat} : ∀ i, i ≤ N → fb_ct (fun j => p j && Q j) i = fb_ct (fun m => Q (kth p N m)) (fb_ct p i)
  | 0, _ => rfl
  | i + 1, h => by
    rw [fb_ct_succ, ct_kth (N := N) i (by omega), fb_ct_succ]
    by_cases ht : p i = true
    · rw [if_pos ht, fb_ct_succ, kth_ct (by omega) ht, ht, Bool.true_and]
    · have ht' : p i = false := by simpa using ht
      rw [ht']; simp
theorem sm_kth {p : Nat → Bool} {f : Nat → Nat} {N : Nat} : ∀ i, i ≤ N → fb_sm (fun j => if p j = true then f j else 0) i = fb_sm (fun m => f (kth p N m)) (fb_ct p i)
  | 0, _ => rfl
  | i + 1, h => by
    rw [fb_sm_succ, sm_kth (N := N) i (by omega), fb_ct_succ]
    by_cases ht : p i = true
    · rw [if_pos ht, if_pos ht, fb_sm_succ, kth_ct (by omega) ht]
    · rw [if_neg ht, if_neg ht]; rfl
theorem kth_ltI {p : Nat → Bool} {N m n : Nat} (hm : m < fb_ct p N) (hn : n < fb_ct p N) : kth p N m < kth p N n ↔ m < n := by
  constructor
  · intro h
    rcases Nat.lt_trichotomy m n with q | q | q
    · exact q
    · subst q; omega
    · have := kth_mono q hm; omega
  · exact fun h => kth_mono h hn
/-- pairs i < j of those that p has, by cells and by their row -/
theorem pairs_kth {p : Nat → Bool} {Q : Nat → Nat → Bool} {N : Nat} : fb_sm (fun i => fb_ct (fun j => decide (i < j) && (p i && p j && Q i j)) N) N = fb_sm (fun m => fb_ct (fun m' => decide (m < m') && Q (kth p N m) (kth p N m')) (fb_ct p N)) (fb_ct p N) := by
  have e1 : fb_sm (fun i => fb_ct (fun j => decide (i < j) && (p i && p j && Q i j)) N) N = fb_sm (fun i => if p i = true then fb_ct (fun j => p j && (decide (i < j) && Q i j)) N else 0) N := by
    refine fb_sm_cong (fun i hi => ?_)
    by_cases h : p i = true
    · rw [if_pos h]
      refine fb_ct_cong (fun j hj => ?_)
      rw [h, Bool.true_and]
      cases p j <;> simp
    · rw [if_neg h]
      have h' : p i = false := by simpa using h
      exact (fb_ct_zero).mpr (fun j _ => by rw [h']; simp)
  rw [e1, sm_kth (N := N) N (Nat.le_refl _)]
  refine fb_sm_cong (fun m hm => ?_)
  rw [ct_kth (N := N) N (Nat.le_refl _)]
  refine fb_ct_cong (fun m' hm' => ?_)
  have : decide (kth p N m < kth p N m') = decide (m < m') := decide_eq_decide.mpr (kth_ltI hm hm')
  rw [this]
/-- a count of pairs, as the loops make it: rows below i whole, row i below j -/
theorem pr_le {Q : Nat → Nat → Bool} {N i : Nat} : fb_sm (fun i => fb_ct (fun j => decide (i < j) && Q i j) N) i ≤ i * N := fb_sm_bound (fun k _ => fb_ct_le _ N)
def prN (Q : Nat → Nat → Bool) (N i j : Nat) : Nat := fb_sm (fun i => fb_ct (fun j => decide (i < j) && Q i j) N) i + fb_ct (fun j => decide (i < j) && Q i j) j
theorem prN_b {Q : Nat → Nat → Bool} {N i j : Nat} (hi : i ≤ 24) (hj : j ≤ 24) (hN : N ≤ 24) : prN Q N i j < 2 ^ 20 := by
  have h1 := pr_le (Q := Q) (N := N) (i := i)
  have h2 := fb_ct_le (fun j => decide (i < j) && Q i j) j
  have h3 : i * N ≤ 24 * 24 := Nat.mul_le_mul hi hN
  unfold prN; omega
theorem prN_0 {Q : Nat → Nat → Bool} {N i : Nat} : prN Q N i (i + 1) = prN Q N i 0 := by
  unfold prN
  rw [(fb_ct_zero (n := i + 1)).mpr (fun k hk => by simp; omega)]
  rfl
theorem prN_s {Q : Nat → Nat → Bool} {N i j : Nat} (h : i < j) : prN Q N i (j + 1) = prN Q N i j + (if Q i j = true then 1 else 0) := by
  unfold prN
  rw [fb_ct_succ]
  simp [h, Nat.add_assoc]
theorem prN_r {Q : Nat → Nat → Bool} {N i : Nat} : prN Q N i N = prN Q N (i + 1) 0 := by
  unfold prN
  rw [fb_sm_succ]
  rfl
theorem prN_e {Q : Nat → Nat → Bool} {N : Nat} : prN Q N N 0 = fb_sm (fun i => fb_ct (fun j => decide (i < j) && Q i j) N) N := by
  unfold prN; rw [fb_ct]; rfl
theorem r_metOnes {X : Nat × (Nat → Int32)} {d : Nat} {I : Nat → Nat → Int32} {J : Nat → Nat → Int64} {fi : Nat → Nat → Int32} (hd : 2 ≤ d) (h2 : ∀ b, b < 24 → I 178 (820 + b) = nI (mtS fi b)) : callF X d 228 [.ref 177] (mk I J) = some (some (.int (nI (metN fi))), mk I J) := by
  refine callF_at (by omega) (by decide) (Nat.le_of_ble_eq_true rfl) (fun d _ => ?_)
  show Ev X d 228 0 [.ref 177, .retAddr 0, .retAddr 0] [] ( mk I J) _
  simp (disch := first | omega | assumption | exact rfl) only [U_228_0, XX, QQ, WW, KK, QX, SHs, RRs, Nat.reduceAdd, Nat.reduceMul, Nat.reduceLeDiff, Nat.reduceEqDiff, List.length_cons, List.length_nil, decide_true, decide_false, Bool.true_and, Bool.and_true, Bool.false_and, Bool.and_false, false_and, and_false, Bool.false_eq_true, Bool.true_eq_false, reduceCtorEq, eq_self, if_true, if_false, true_and, and_true, not_true_eq_false, not_false_eq_true, if_pos, if_neg, z_ite_not, false_or, or_false, true_or, or_true, SWs, swk_0, swk_1]
  refine lp0 (n := 24) (P := fun k => Ev X d 228 1 [.ref 177, .int (nI (fb_sm (fun b => pop (mtS fi b)) k)), .int (nI k)] [] (mk I J) (some (.int (nI (metN fi))), mk I J)) ?_ ?_
  · rw [U_228_1]
    have := sm_le (f := mtS fi) 24
    simp (disch := first | omega | assumption | exact rfl) only [U_228_3, XX, QQ, WW, KK, QX, SHs, RRs, Nat.reduceAdd, Nat.reduceMul, Nat.reduceLeDiff, Nat.reduceEqDiff, List.length_cons, List.length_nil, decide_true, decide_false, Bool.true_and, Bool.and_true, Bool.false_and, Bool.and_false, false_and, and_false, Bool.false_eq_true, Bool.true_eq_false, reduceCtorEq, eq_self, if_true, if_false, true_and, and_true, not_true_eq_false, not_false_eq_true, if_pos, if_neg, z_ite_not, false_or, or_false, true_or, or_true, SWs, swk_0, swk_1, q_div, n2ne, metN]
  · intro k hk ih
    rw [U_228_1]
    rw [fb_sm_succ] at ih
    have e := h2 k hk
    have e2 := mtS_lt fi k
    simp (disch := first | omega | assumption | exact rfl) only [U_228_2, XX, QQ, WW, KK, QX, SHs, RRs, Nat.reduceAdd, Nat.reduceMul, Nat.reduceLeDiff, Nat.reduceEqDiff, List.length_cons, List.length_nil, decide_true, decide_false, Bool.true_and, Bool.and_true, Bool.false_and, Bool.and_false, false_and, and_false, Bool.false_eq_true, Bool.true_eq_false, reduceCtorEq, eq_self, if_true, if_false, true_and, and_true, not_true_eq_false, not_false_eq_true, if_pos, if_neg, z_ite_not, false_or, or_false, true_or, or_true, SWs, swk_0, swk_1, e, r_count]
    exact ih
/-- two of the wall that have never met -/
noncomputable def nvQ (B : Nat → Int32) (fi : Nat → Nat → Int32) (i j : Nat) : Bool := isB B i && isB B j && decide (fi (B i).toNatClampNeg (B j).toNatClampNeg = -1)
noncomputable def nvN (B : Nat → Int32) (fi : Nat → Nat → Int32) (N : Nat) : Nat := fb_sm (fun i => fb_ct (fun j => decide (i < j) && nvQ B fi i j) N) N
theorem c_neverMet {X : Nat × (Nat → Int32)} {d : Nat} {I : Nat → Nat → Int32} {J : Nat → Nat → Int64} {F : Nat} {fi : Nat → Nat → Int32} (hd : 3 ≤ d) (hG : WG (mk I J) 14 F) (hB : WB (I 15) (pop F)) (h1 : ∀ b c, b < 24 → c < 24 → fi b c = fi c b) (h3 : ∀ b c, b < c → c < 24 → I 7 (b * 24 + c) = fi b c) : callF X d 111 [.ref 1] (mk I J) = some (some (.int (nI (nvN (I 15) fi (pop F)))), mk I J) := by
  have h24 := hG.2.2.1
  have hc : I 14 1 = nI (pop F) := hG.2.2.2.2.1
  refine callF_at (by omega) (by decide) (Nat.le_of_ble_eq_true rfl) (fun d _ => ?_)
  show Ev X d 111 0 [.ref 1, .retAddr 0, .retAddr 0, .retAddr 0, .retAddr 0, .retAddr 0] [] ( mk I J) _
  simp (disch := first | omega | assumption | exact rfl) only [U_111_0, XX, QQ, WW, KK, QX, SHs, RRs, Nat.reduceAdd, Nat.reduceMul, Nat.reduceLeDiff, Nat.reduceEqDiff, List.length_cons, List.length_nil, decide_true, decide_false, Bool.true_and, Bool.and_true, Bool.false_and, Bool.and_false, false_and, and_false, Bool.false_eq_true, Bool.true_eq_false, reduceCtorEq, eq_self, if_true, if_false, true_and, and_true, not_true_eq_false, not_false_eq_true, if_pos, if_neg, z_ite_not, false_or, or_false, true_or, or_true, SWs, swk_0, swk_1]
  refine lpI (n := pop F) (P := fun i => ∀ u3 u4 u5 : Value, Ev X d 111 1 [.ref 1, .int (nI (prN (nvQ (I 15) fi) (pop F) i 0)), .int (nI i), u3, u4, u5] [] (mk I J) (some (.int (nI (nvN (I 15) fi (pop F)))), mk I J)) ?_ ?_ (fun L => L _ _ _)
  · intro u3 u4 u5
    rw [U_111_1, prN_e]
    simp (disch := first | omega | assumption | exact rfl) only [U_111_10, XX, QQ, WW, KK, QX, SHs, RRs, Nat.reduceAdd, Nat.reduceMul, Nat.reduceLeDiff, Nat.reduceEqDiff, List.length_cons, List.length_nil, decide_true, decide_false, Bool.true_and, Bool.and_true, Bool.false_and, Bool.and_false, false_and, and_false, Bool.false_eq_true, Bool.true_eq_false, reduceCtorEq, eq_self, if_true, if_false, true_and, and_true, not_true_eq_false, not_false_eq_true, if_pos, if_neg, z_ite_not, false_or, or_false, true_or, or_true, SWs, swk_0, swk_1, hc]
    rfl
  · intro i hi ih u3 u4 u5
    rw [U_111_1]
    simp (disch := first | omega | assumption | exact rfl) only [U_111_2, XX, QQ, WW, KK, QX, SHs, RRs, Nat.reduceAdd, Nat.reduceMul, Nat.reduceLeDiff, Nat.reduceEqDiff, List.length_cons, List.length_nil, decide_true, decide_false, Bool.true_and, Bool.and_true, Bool.false_and, Bool.and_false, false_and, and_false, Bool.false_eq_true, Bool.true_eq_false, reduceCtorEq, eq_self, if_true, if_false, true_and, and_true, not_true_eq_false, not_false_eq_true, if_pos, if_neg, z_ite_not, false_or, or_false, true_or, or_true, SWs, swk_0, swk_1, hc]
    have L := lpd (n := pop F) (P := fun j => i < j → ∀ u4 u5 : Value, Ev X d 111 3 [.ref 1, .int (nI (prN (nvQ (I 15) fi) (pop F) i j)), .int (nI i), .int (nI j), u4, u5] [] (mk I J) (some (.int (nI (nvN (I 15) fi (pop F)))), mk I J)) (by
      intro _ u4 u5
      rw [U_111_3, prN_r]
      simp (disch := first | omega | assumption | exact rfl) only [U_111_9, XX, QQ, WW, KK, QX, SHs, RRs, Nat.reduceAdd, Nat.reduceMul, Nat.reduceLeDiff, Nat.reduceEqDiff, List.length_cons, List.length_nil, decide_true, decide_false, Bool.true_and, Bool.and_true, Bool.false_and, Bool.and_false, false_and, and_false, Bool.false_eq_true, Bool.true_eq_false, reduceCtorEq, eq_self, if_true, if_false, true_and, and_true, not_true_eq_false, not_false_eq_true, if_pos, if_neg, z_ite_not, false_or, or_false, true_or, or_true, SWs, swk_0, swk_1, hc]
      exact ih _ _ _) (by
      intro j hj ihj hij u4 u5
      rw [U_111_3]
      have q := ihj (by omega)
      rw [prN_s hij] at q
      have bd := prN_b (Q := nvQ (I 15) fi) (N := pop F) (i := i) (j := j) (by omega) (by omega) h24
      rcases hB.1 i hi with z | ⟨b, hb, z⟩
      · rw [if_neg (by simp [nvQ, isB, z]), Nat.add_zero] at q
        simp (disch := first | omega | assumption | exact rfl) only [U_111_4, U_111_8, XX, QQ, WW, KK, QX, SHs, RRs, Nat.reduceAdd, Nat.reduceMul, Nat.reduceLeDiff, Nat.reduceEqDiff, List.length_cons, List.length_nil, decide_true, decide_false, Bool.true_and, Bool.and_true, Bool.false_and, Bool.and_false, false_and, and_false, Bool.false_eq_true, Bool.true_eq_false, reduceCtorEq, eq_self, if_true, if_false, true_and, and_true, not_true_eq_false, not_false_eq_true, if_pos, if_neg, z_ite_not, false_or, or_false, true_or, or_true, SWs, swk_0, swk_1, hc, z]
        exact q _ _
      · rcases hB.1 j hj with z' | ⟨b', hb', z'⟩
        · rw [if_neg (by simp [nvQ, isB, z']), Nat.add_zero] at q
          simp (disch := first | omega | assumption | exact rfl) only [U_111_4, U_111_5, U_111_8, XX, QQ, WW, KK, QX, SHs, RRs, Nat.reduceAdd, Nat.reduceMul, Nat.reduceLeDiff, Nat.reduceEqDiff, List.length_cons, List.length_nil, decide_true, decide_false, Bool.true_and, Bool.and_true, Bool.false_and, Bool.and_false, false_and, and_false, Bool.false_eq_true, Bool.true_eq_false, reduceCtorEq, eq_self, if_true, if_false, true_and, and_true, not_true_eq_false, not_false_eq_true, if_pos, if_neg, z_ite_not, false_or, or_false, true_or, or_true, SWs, swk_0, swk_1, hc, z, z']
          exact q _ _
        · have hbb : b ≠ b' := fun e => by
            subst e
            have := hB.2.1 i j hi hj (z.trans z'.symm) (by rw [z]; exact nI_ne (by omega))
            omega
          have fo := c_firstOf (X := X) (d := d) (J := J) (by omega) hb hb' hbb h1 h3
          have e1 : isB (I 15) i = true := by simp [isB, z]; exact nI_ne (by omega)
          have e2 : isB (I 15) j = true := by simp [isB, z']; exact nI_ne (by omega)
          have e3 : nvQ (I 15) fi i j = decide (fi b b' = -1) := by
            unfold nvQ; rw [e1, e2, z, z', nI_clamp (by omega), nI_clamp (by omega)]; simp
          rw [e3] at q
          by_cases y : fi b b' = -1
          · rw [y] at fo
            rw [if_pos (by simp [y])] at q
            simp (disch := first | omega | assumption | exact rfl) only [U_111_4, U_111_5, U_111_6, U_111_7, U_111_8, XX, QQ, WW, KK, QX, SHs, RRs, Nat.reduceAdd, Nat.reduceMul, Nat.reduceLeDiff, Nat.reduceEqDiff, List.length_cons, List.length_nil, decide_true, decide_false, Bool.true_and, Bool.and_true, Bool.false_and, Bool.and_false, false_and, and_false, Bool.false_eq_true, Bool.true_eq_false, reduceCtorEq, eq_self, if_true, if_false, true_and, and_true, not_true_eq_false, not_false_eq_true, if_pos, if_neg, z_ite_not, false_or, or_false, true_or, or_true, SWs, swk_0, swk_1, hc, z, z', fo]
            exact q _ _
          · rw [if_neg (by simp [y]), Nat.add_zero] at q
            simp (disch := first | omega | assumption | exact rfl) only [U_111_4, U_111_5, U_111_6, U_111_7, U_111_8, XX, QQ, WW, KK, QX, SHs, RRs, Nat.reduceAdd, Nat.reduceMul, Nat.reduceLeDiff, Nat.reduceEqDiff, List.length_cons, List.length_nil, decide_true, decide_false, Bool.true_and, Bool.and_true, Bool.false_and, Bool.and_false, false_and, and_false, Bool.false_eq_true, Bool.true_eq_false, reduceCtorEq, eq_self, if_true, if_false, true_and, and_true, not_true_eq_false, not_false_eq_true, if_pos, if_neg, z_ite_not, false_or, or_false, true_or, or_true, SWs, swk_0, swk_1, hc, z, z', fo, y]
            exact q _ _) (i + 1) (by omega) (by omega) u4 u5
    rw [prN_0] at L
    exact L
theorem r_never {X : Nat × (Nat → Int32)} {d : Nat} {I : Nat → Nat → Int32} {J : Nat → Nat → Int64} {F : Nat} {B : Nat → Int32} {fi : Nat → Nat → Int32} (hd : 3 ≤ d) (hR : RWl (I 178) 0 F B) (hB : WB B (pop F)) (h2 : ∀ b, b < 24 → I 178 (820 + b) = nI (mtS fi b)) : callF X d 235 [.ref 177] (mk I J) = some (some (.int (nI (nvN B fi (pop F)))), mk (Igat I F B) J) := by
  have h24 := hR.1
  refine callF_at (by omega) (by decide) (Nat.le_of_ble_eq_true rfl) (fun d _ => ?_)
  show Ev X d 235 0 [.ref 177, .retAddr 0, .retAddr 0, .retAddr 0, .retAddr 0] [] ( mk I J) _
  have g := r_gathers (X := X) (d := d) (J := J) (by omega) (show 0 < 6 by decide) hR
  simp (disch := first | omega | assumption | exact rfl) only [U_235_0, XX, QQ, WW, KK, QX, SHs, RRs, Nat.reduceAdd, Nat.reduceMul, Nat.reduceLeDiff, Nat.reduceEqDiff, List.length_cons, List.length_nil, decide_true, decide_false, Bool.true_and, Bool.and_true, Bool.false_and, Bool.and_false, false_and, and_false, Bool.false_eq_true, Bool.true_eq_false, reduceCtorEq, eq_self, if_true, if_false, true_and, and_true, not_true_eq_false, not_false_eq_true, if_pos, if_neg, z_ite_not, false_or, or_false, true_or, or_true, SWs, swk_0, swk_1, g]
  obtain ⟨c, hc⟩ : ∃ c, c = fb_ct (isB B) (pop F) := ⟨_, rfl⟩
  have c24 : c ≤ 24 := by rw [hc]; exact Nat.le_trans (fb_ct_le _ _) h24
  have e : nvN B fi (pop F) = fb_sm (fun i => fb_ct (fun j => decide (i < j) && (fun m m' => decide (fi (B (kth (isB B) (pop F) m)).toNatClampNeg (B (kth (isB B) (pop F) m')).toNatClampNeg = -1)) i j) c) c := by
    unfold nvN nvQ
    rw [hc]
    exact pairs_kth (p := isB B) (Q := fun i j => decide (fi (B i).toNatClampNeg (B j).toNatClampNeg = -1))
  rw [e]
  obtain ⟨Q, hQ⟩ : ∃ Q : Nat → Nat → Bool, Q = fun m m' => decide (fi (B (kth (isB B) (pop F) m)).toNatClampNeg (B (kth (isB B) (pop F) m')).toNatClampNeg = -1) := ⟨_, rfl⟩
  rw [← hQ, ← hc]
  have g178 : Igat I F B 178 = I 178 := by unfold Igat; rw [vu_ne (by decide), vu_ne (by decide)]
  have gb : ∀ m, m < c → ∃ b, b < 24 ∧ Igat I F B 189 m = nI b ∧ B (kth (isB B) (pop F) m) = nI b := by
    intro m hm
    obtain ⟨k1, k2, k3⟩ := kth_spec (p := isB B) (N := pop F) (n := m) (by omega)
    have g1 : Igat I F B 189 m = B (kth (isB B) (pop F) m) := by
      unfold Igat; rw [vu_ne (by decide), vu_eq]; exact if_pos (by omega)
    rcases hB.1 _ k1 with z | ⟨b, hb, z⟩
    · simp [isB, z] at k2
    · exact ⟨b, hb, by rw [g1, z], z⟩
  refine lpI (n := c) (P := fun i => ∀ u4 : Value, Ev X d 235 1 [.ref 177, .int (nI c), .int (nI (prN Q c i 0)), .int (nI i), u4] [] (mk (Igat I F B) J) (some (.int (nI (fb_sm (fun i => fb_ct (fun j => decide (i < j) && Q i j) c) c))), mk (Igat I F B) J)) ?_ ?_ (fun L => L _)
  · intro u4
    rw [U_235_1, prN_e]
    simp (disch := first | omega | assumption | exact rfl) only [U_235_9, XX, QQ, WW, KK, QX, SHs, RRs, Nat.reduceAdd, Nat.reduceMul, Nat.reduceLeDiff, Nat.reduceEqDiff, List.length_cons, List.length_nil, decide_true, decide_false, Bool.true_and, Bool.and_true, Bool.false_and, Bool.and_false, false_and, and_false, Bool.false_eq_true, Bool.true_eq_false, reduceCtorEq, eq_self, if_true, if_false, true_and, and_true, not_true_eq_false, not_false_eq_true, if_pos, if_neg, z_ite_not, false_or, or_false, true_or, or_true, SWs, swk_0, swk_1]
  · intro i hi ih u4
    rw [U_235_1]
    simp (disch := first | omega | assumption | exact rfl) only [U_235_2, XX, QQ, WW, KK, QX, SHs, RRs, Nat.reduceAdd, Nat.reduceMul, Nat.reduceLeDiff, Nat.reduceEqDiff, List.length_cons, List.length_nil, decide_true, decide_false, Bool.true_and, Bool.and_true, Bool.false_and, Bool.and_false, false_and, and_false, Bool.false_eq_true, Bool.true_eq_false, reduceCtorEq, eq_self, if_true, if_false, true_and, and_true, not_true_eq_false, not_false_eq_true, if_pos, if_neg, z_ite_not, false_or, or_false, true_or, or_true, SWs, swk_0, swk_1]
    have L := lpd (n := c) (P := fun j => i < j → Ev X d 235 3 [.ref 177, .int (nI c), .int (nI (prN Q c i j)), .int (nI i), .int (nI j)] [] (mk (Igat I F B) J) (some (.int (nI (fb_sm (fun i => fb_ct (fun j => decide (i < j) && Q i j) c) c))), mk (Igat I F B) J)) (by
      intro _
      rw [U_235_3, prN_r]
      simp (disch := first | omega | assumption | exact rfl) only [U_235_8, XX, QQ, WW, KK, QX, SHs, RRs, Nat.reduceAdd, Nat.reduceMul, Nat.reduceLeDiff, Nat.reduceEqDiff, List.length_cons, List.length_nil, decide_true, decide_false, Bool.true_and, Bool.and_true, Bool.false_and, Bool.and_false, false_and, and_false, Bool.false_eq_true, Bool.true_eq_false, reduceCtorEq, eq_self, if_true, if_false, true_and, and_true, not_true_eq_false, not_false_eq_true, if_pos, if_neg, z_ite_not, false_or, or_false, true_or, or_true, SWs, swk_0, swk_1]
      exact ih _) (by
      intro j hj ihj hij
      rw [U_235_3]
      have q := ihj (by omega)
      rw [prN_s hij] at q
      have bd := prN_b (Q := Q) (N := c) (i := i) (j := j) (by omega) (by omega) c24
      obtain ⟨b, hb, z1, z2⟩ := gb i hi
      obtain ⟨b', hb', z3, z4⟩ := gb j hj
      have e3 : Q i j = decide (fi b b' = -1) := by rw [hQ]; simp only [z2, z4]; rw [nI_clamp (by omega), nI_clamp (by omega)]
      rw [e3] at q
      have m1 := h2 b hb
      have m2 := mtS_lt fi b
      have et : (mtS fi b).testBit b' = decide (¬ fi b b' = -1) := by
        rw [Bool.eq_iff_iff, decide_eq_true_iff]
        unfold mtS
        rw [bs_tb]
        exact ⟨fun z => z.2, fun z => ⟨hb', z⟩⟩
      by_cases y : fi b b' = -1
      · rw [if_pos (by simp [y])] at q
        have et' : (mtS fi b).testBit b' = false := by rw [et]; simp [y]
        simp (disch := first | omega | assumption | exact rfl) only [U_235_4, U_235_5, U_235_6, U_235_7, XX, QQ, WW, KK, QX, SHs, RRs, Nat.reduceAdd, Nat.reduceMul, Nat.reduceLeDiff, Nat.reduceEqDiff, List.length_cons, List.length_nil, decide_true, decide_false, Bool.true_and, Bool.and_true, Bool.false_and, Bool.and_false, false_and, and_false, Bool.false_eq_true, Bool.true_eq_false, reduceCtorEq, eq_self, if_true, if_false, true_and, and_true, not_true_eq_false, not_false_eq_true, if_pos, if_neg, z_ite_not, false_or, or_false, true_or, or_true, SWs, swk_0, swk_1, z1, z3, g178, m1, et']
        exact q
      · rw [if_neg (by simp [y]), Nat.add_zero] at q
        have et' : (mtS fi b).testBit b' = true := by rw [et]; simp [y]
        simp (disch := first | omega | assumption | exact rfl) only [U_235_4, U_235_5, U_235_6, U_235_7, XX, QQ, WW, KK, QX, SHs, RRs, Nat.reduceAdd, Nat.reduceMul, Nat.reduceLeDiff, Nat.reduceEqDiff, List.length_cons, List.length_nil, decide_true, decide_false, Bool.true_and, Bool.and_true, Bool.false_and, Bool.and_false, false_and, and_false, Bool.false_eq_true, Bool.true_eq_false, reduceCtorEq, eq_self, if_true, if_false, true_and, and_true, not_true_eq_false, not_false_eq_true, if_pos, if_neg, z_ite_not, false_or, or_false, true_or, or_true, SWs, swk_0, swk_1, z1, z3, g178, m1, et', Nat.add_zero]
        exact q) (i + 1) (by omega) (by omega)
    rw [prN_0] at L
    exact L
/-- what is common to the years below y -/
def anP (S : Nat → Nat → Nat) (b : Nat) : Nat → Nat
  | 0 => 0
  | 1 => S 0 b
  | y + 2 => anP S b (y + 1) &&& S (y + 1) b
theorem anP_s {S : Nat → Nat → Nat} {b y : Nat} (hy : 1 ≤ y) : anP S b (y + 1) = anP S b y &&& S y b := by
  obtain ⟨k, rfl⟩ : ∃ k, y = k + 1 := ⟨y - 1, by omega⟩
  rfl
theorem anP_lt {S : Nat → Nat → Nat} {b n : Nat} (h : ∀ y, y < n → S y b < 2 ^ 24) : ∀ y, y ≤ n → anP S b y < 2 ^ 24
  | 0, _ => by show 0 < 2 ^ 24; decide
  | 1, h1 => h 0 (by omega)
  | y + 2, h1 => Nat.lt_of_le_of_lt Nat.and_le_left (anP_lt h (y + 1) (by omega))
theorem c_always {X : Nat × (Nat → Int32)} {d : Nat} {I : Nat → Nat → Int32} {J : Nat → Nat → Int64} {n : Nat} {S : Nat → Nat → Nat} (hd : 2 ≤ d) (hn : n ≤ 60) (h8 : I 8 0 = nI n) (hS : ∀ y, y < n → ∀ b, b < 24 → S y b < 2 ^ 24 ∧ I 12 (y * 24 + b) = nI (S y b)) : callF X d 28 [.ref 8] (mk I J) = some (some (.int (nI (fb_sm (fun b => pop (anP S b n)) 24 / 2))), mk I J) := by
  refine callF_at (by omega) (by decide) (Nat.le_of_ble_eq_true rfl) (fun d _ => ?_)
  show Ev X d 28 0 [.ref 8, .retAddr 0, .retAddr 0, .retAddr 0, .retAddr 0] [] ( mk I J) _
  rcases Nat.eq_zero_or_pos n with z | z
  · subst z
    have e : fb_sm (fun b => pop (anP S b 0)) 24 / 2 = 0 := by
      have : fb_sm (fun b => pop (anP S b 0)) 24 = fb_sm (fun _ => 0) 24 := fb_sm_cong (fun _ _ => pop_0)
      rw [this, fb_sm_const]
    rw [e]
    simp (disch := first | omega | assumption | exact rfl) only [U_28_0, U_28_1, U_28_2, U_28_7, XX, QQ, WW, KK, QX, SHs, RRs, Nat.reduceAdd, Nat.reduceMul, Nat.reduceLeDiff, Nat.reduceEqDiff, List.length_cons, List.length_nil, decide_true, decide_false, Bool.true_and, Bool.and_true, Bool.false_and, Bool.and_false, false_and, and_false, Bool.false_eq_true, Bool.true_eq_false, reduceCtorEq, eq_self, if_true, if_false, true_and, and_true, not_true_eq_false, not_false_eq_true, if_pos, if_neg, z_ite_not, false_or, or_false, true_or, or_true, SWs, swk_0, swk_1, h8, q_le0, q_div, n2ne]
  · simp (disch := first | omega | assumption | exact rfl) only [U_28_0, XX, QQ, WW, KK, QX, SHs, RRs, Nat.reduceAdd, Nat.reduceMul, Nat.reduceLeDiff, Nat.reduceEqDiff, List.length_cons, List.length_nil, decide_true, decide_false, Bool.true_and, Bool.and_true, Bool.false_and, Bool.and_false, false_and, and_false, Bool.false_eq_true, Bool.true_eq_false, reduceCtorEq, eq_self, if_true, if_false, true_and, and_true, not_true_eq_false, not_false_eq_true, if_pos, if_neg, z_ite_not, false_or, or_false, true_or, or_true, SWs, swk_0, swk_1]
    refine lp0 (n := 24) (P := fun b => ∀ u3 u4 : Value, Ev X d 28 1 [.ref 8, .int (nI (fb_sm (fun b => pop (anP S b n)) b)), .int (nI b), u3, u4] [] (mk I J) (some (.int (nI (fb_sm (fun b => pop (anP S b n)) 24 / 2))), mk I J)) ?_ ?_ _ _
    · intro u3 u4
      rw [U_28_1]
      have := sm_le (f := fun b => anP S b n) 24
      simp (disch := first | omega | assumption | exact rfl) only [U_28_7, XX, QQ, WW, KK, QX, SHs, RRs, Nat.reduceAdd, Nat.reduceMul, Nat.reduceLeDiff, Nat.reduceEqDiff, List.length_cons, List.length_nil, decide_true, decide_false, Bool.true_and, Bool.and_true, Bool.false_and, Bool.and_false, false_and, and_false, Bool.false_eq_true, Bool.true_eq_false, reduceCtorEq, eq_self, if_true, if_false, true_and, and_true, not_true_eq_false, not_false_eq_true, if_pos, if_neg, z_ite_not, false_or, or_false, true_or, or_true, SWs, swk_0, swk_1, q_div, n2ne]
    · intro b hb ih u3 u4
      rw [U_28_1]
      rw [fb_sm_succ] at ih
      obtain ⟨e1, e2⟩ := hS 0 z b hb
      rw [Nat.zero_mul, Nat.zero_add] at e2
      have bd := sm_le (f := fun b => anP S b n) b
      have a0 := anP_lt (fun y hy => (hS y hy b hb).1) n (Nat.le_refl n)
      simp (disch := first | omega | assumption | exact rfl) only [U_28_2, U_28_3, XX, QQ, WW, KK, QX, SHs, RRs, Nat.reduceAdd, Nat.reduceMul, Nat.reduceLeDiff, Nat.reduceEqDiff, List.length_cons, List.length_nil, decide_true, decide_false, Bool.true_and, Bool.and_true, Bool.false_and, Bool.and_false, false_and, and_false, Bool.false_eq_true, Bool.true_eq_false, reduceCtorEq, eq_self, if_true, if_false, true_and, and_true, not_true_eq_false, not_false_eq_true, if_pos, if_neg, z_ite_not, false_or, or_false, true_or, or_true, SWs, swk_0, swk_1, h8, e2, q_le0]
      refine lpd (n := n) (P := fun y => 1 ≤ y → Ev X d 28 4 [.ref 8, .int (nI (fb_sm (fun b => pop (anP S b n)) b)), .int (nI b), .int (nI (anP S b y)), .int (nI y)] [] (mk I J) (some (.int (nI (fb_sm (fun b => pop (anP S b n)) 24 / 2))), mk I J)) ?_ ?_ 1 z (Nat.le_refl 1)
      · intro _
        rw [U_28_4]
        simp (disch := first | omega | assumption | exact rfl) only [U_28_6, XX, QQ, WW, KK, QX, SHs, RRs, Nat.reduceAdd, Nat.reduceMul, Nat.reduceLeDiff, Nat.reduceEqDiff, List.length_cons, List.length_nil, decide_true, decide_false, Bool.true_and, Bool.and_true, Bool.false_and, Bool.and_false, false_and, and_false, Bool.false_eq_true, Bool.true_eq_false, reduceCtorEq, eq_self, if_true, if_false, true_and, and_true, not_true_eq_false, not_false_eq_true, if_pos, if_neg, z_ite_not, false_or, or_false, true_or, or_true, SWs, swk_0, swk_1, h8, s_bcI]
        exact ih _ _
      · intro y hy ihy h1
        rw [U_28_4]
        have q := ihy (by omega)
        rw [anP_s h1] at q
        obtain ⟨g1, g2⟩ := hS y hy b hb
        simp (disch := first | omega | assumption | exact rfl) only [U_28_5, XX, QQ, WW, KK, QX, SHs, RRs, Nat.reduceAdd, Nat.reduceMul, Nat.reduceLeDiff, Nat.reduceEqDiff, List.length_cons, List.length_nil, decide_true, decide_false, Bool.true_and, Bool.and_true, Bool.false_and, Bool.and_false, false_and, and_false, Bool.false_eq_true, Bool.true_eq_false, reduceCtorEq, eq_self, if_true, if_false, true_and, and_true, not_true_eq_false, not_false_eq_true, if_pos, if_neg, z_ite_not, false_or, or_false, true_or, or_true, SWs, swk_0, swk_1, h8, g2, fa_and]
        exact q
theorem r_always {X : Nat × (Nat → Int32)} {d : Nat} {I : Nat → Nat → Int32} {J : Nat → Nat → Int64} {n : Nat} {S : Nat → Nat → Nat} (hd : 2 ≤ d) (hn : n ≤ 60) (h4 : I 178 4 = nI n) (hS : ∀ y, y < n → ∀ b, b < 24 → S y b < 2 ^ 24 ∧ I 178 (1430 + 51 * y + 3 + b) = nI (S y b)) : callF X d 236 [.ref 177] (mk I J) = some (some (.int (nI (fb_sm (fun b => pop (anP S b n)) 24 / 2))), mk I J) := by
  refine callF_at (by omega) (by decide) (Nat.le_of_ble_eq_true rfl) (fun d _ => ?_)
  show Ev X d 236 0 [.ref 177, .retAddr 0, .retAddr 0, .retAddr 0, .retAddr 0] [] ( mk I J) _
  rcases Nat.eq_zero_or_pos n with z | z
  · subst z
    have e : fb_sm (fun b => pop (anP S b 0)) 24 / 2 = 0 := by
      have : fb_sm (fun b => pop (anP S b 0)) 24 = fb_sm (fun _ => 0) 24 := fb_sm_cong (fun _ _ => pop_0)
      rw [this, fb_sm_const]
    rw [e]
    simp (disch := first | omega | assumption | exact rfl) only [U_236_0, U_236_1, U_236_2, U_236_7, XX, QQ, WW, KK, QX, SHs, RRs, Nat.reduceAdd, Nat.reduceMul, Nat.reduceLeDiff, Nat.reduceEqDiff, List.length_cons, List.length_nil, decide_true, decide_false, Bool.true_and, Bool.and_true, Bool.false_and, Bool.and_false, false_and, and_false, Bool.false_eq_true, Bool.true_eq_false, reduceCtorEq, eq_self, if_true, if_false, true_and, and_true, not_true_eq_false, not_false_eq_true, if_pos, if_neg, z_ite_not, false_or, or_false, true_or, or_true, SWs, swk_0, swk_1, h4, q_le0, q_div, n2ne]
  · simp (disch := first | omega | assumption | exact rfl) only [U_236_0, XX, QQ, WW, KK, QX, SHs, RRs, Nat.reduceAdd, Nat.reduceMul, Nat.reduceLeDiff, Nat.reduceEqDiff, List.length_cons, List.length_nil, decide_true, decide_false, Bool.true_and, Bool.and_true, Bool.false_and, Bool.and_false, false_and, and_false, Bool.false_eq_true, Bool.true_eq_false, reduceCtorEq, eq_self, if_true, if_false, true_and, and_true, not_true_eq_false, not_false_eq_true, if_pos, if_neg, z_ite_not, false_or, or_false, true_or, or_true, SWs, swk_0, swk_1]
    refine lp0 (n := 24) (P := fun b => ∀ u3 u4 : Value, Ev X d 236 1 [.ref 177, .int (nI (fb_sm (fun b => pop (anP S b n)) b)), .int (nI b), u3, u4] [] (mk I J) (some (.int (nI (fb_sm (fun b => pop (anP S b n)) 24 / 2))), mk I J)) ?_ ?_ _ _
    · intro u3 u4
      rw [U_236_1]
      have := sm_le (f := fun b => anP S b n) 24
      simp (disch := first | omega | assumption | exact rfl) only [U_236_7, XX, QQ, WW, KK, QX, SHs, RRs, Nat.reduceAdd, Nat.reduceMul, Nat.reduceLeDiff, Nat.reduceEqDiff, List.length_cons, List.length_nil, decide_true, decide_false, Bool.true_and, Bool.and_true, Bool.false_and, Bool.and_false, false_and, and_false, Bool.false_eq_true, Bool.true_eq_false, reduceCtorEq, eq_self, if_true, if_false, true_and, and_true, not_true_eq_false, not_false_eq_true, if_pos, if_neg, z_ite_not, false_or, or_false, true_or, or_true, SWs, swk_0, swk_1, q_div, n2ne]
    · intro b hb ih u3 u4
      rw [U_236_1]
      rw [fb_sm_succ] at ih
      obtain ⟨e1, e2⟩ := hS 0 z b hb
      have bd := sm_le (f := fun b => anP S b n) b
      have a0 := anP_lt (fun y hy => (hS y hy b hb).1) n (Nat.le_refl n)
      simp (disch := first | omega | assumption | exact rfl) only [U_236_2, U_236_3, XX, QQ, WW, KK, QX, SHs, RRs, Nat.reduceAdd, Nat.reduceMul, Nat.reduceLeDiff, Nat.reduceEqDiff, List.length_cons, List.length_nil, decide_true, decide_false, Bool.true_and, Bool.and_true, Bool.false_and, Bool.and_false, false_and, and_false, Bool.false_eq_true, Bool.true_eq_false, reduceCtorEq, eq_self, if_true, if_false, true_and, and_true, not_true_eq_false, not_false_eq_true, if_pos, if_neg, z_ite_not, false_or, or_false, true_or, or_true, SWs, swk_0, swk_1, h4, r_together, e2, q_le0]
      refine lpd (n := n) (P := fun y => 1 ≤ y → Ev X d 236 4 [.ref 177, .int (nI (fb_sm (fun b => pop (anP S b n)) b)), .int (nI b), .int (nI (anP S b y)), .int (nI y)] [] (mk I J) (some (.int (nI (fb_sm (fun b => pop (anP S b n)) 24 / 2))), mk I J)) ?_ ?_ 1 z (Nat.le_refl 1)
      · intro _
        rw [U_236_4]
        simp (disch := first | omega | assumption | exact rfl) only [U_236_6, XX, QQ, WW, KK, QX, SHs, RRs, Nat.reduceAdd, Nat.reduceMul, Nat.reduceLeDiff, Nat.reduceEqDiff, List.length_cons, List.length_nil, decide_true, decide_false, Bool.true_and, Bool.and_true, Bool.false_and, Bool.and_false, false_and, and_false, Bool.false_eq_true, Bool.true_eq_false, reduceCtorEq, eq_self, if_true, if_false, true_and, and_true, not_true_eq_false, not_false_eq_true, if_pos, if_neg, z_ite_not, false_or, or_false, true_or, or_true, SWs, swk_0, swk_1, h4, r_count]
        exact ih _ _
      · intro y hy ihy h1
        rw [U_236_4]
        have q := ihy (by omega)
        rw [anP_s h1] at q
        obtain ⟨g1, g2⟩ := hS y hy b hb
        simp (disch := first | omega | assumption | exact rfl) only [U_236_5, XX, QQ, WW, KK, QX, SHs, RRs, Nat.reduceAdd, Nat.reduceMul, Nat.reduceLeDiff, Nat.reduceEqDiff, List.length_cons, List.length_nil, decide_true, decide_false, Bool.true_and, Bool.and_true, Bool.false_and, Bool.and_false, false_and, and_false, Bool.false_eq_true, Bool.true_eq_false, reduceCtorEq, eq_self, if_true, if_false, true_and, and_true, not_true_eq_false, not_false_eq_true, if_pos, if_neg, z_ite_not, false_or, or_false, true_or, or_true, SWs, swk_0, swk_1, h4, r_together, g2, fa_and]
        exact q
/-- couples of cells that touch -/
noncomputable def tcQ (F i j : Nat) : Bool := cd (adj (pl F i) (pl F j))
noncomputable def tcN (F : Nat) : Nat := fb_sm (fun i => fb_ct (fun j => decide (i < j) && tcQ F i j) (pop F)) (pop F)
theorem ct_one {v : Int32} {n : Nat} (hn : n ≤ 24) (h : v = -1 ∨ ∃ j, j < n ∧ v = nI j) : fb_ct (fun j => decide (v = nI j)) n = if v = -1 then 0 else 1 := by
  rcases h with h | ⟨j, hj, h⟩
  · rw [if_pos h]
    exact fb_ct_zero.mpr (fun k hk => by rw [h]; simp; exact fun z => nI_ne (by omega) z.symm)
  · rw [if_neg (by rw [h]; exact nI_ne (by omega))]
    have u := fb_ct_upd (fun _ => false) true hj
    rw [(fb_ct_zero (p := fun _ => false)).mpr (fun _ _ => rfl)] at u
    simp only [Bool.false_eq_true, if_false, if_true, Nat.add_zero, Nat.zero_add] at u
    rw [← u]
    refine fb_ct_cong (fun k hk => ?_)
    by_cases e : k = j
    · subst e; simp [h]
    · simp [h, e]; exact fun z => e (nI_inj (by omega) (by omega) z).symm
theorem tc_row {F i : Nat} (h24 : pop F ≤ 24) (hi : i < pop F) : fb_ct (fun j => decide (i < j) && tcQ F i j) (pop F) = (if tch F i 0 = -1 then 0 else 1) + (if tch F i 2 = -1 then 0 else 1) := by
  have r : ∀ s, tch F i s = -1 ∨ ∃ j, j < pop F ∧ tch F i s = nI j := fun s => by
    rcases tch_in (s := s) hi with q | ⟨j, h1, h2, _⟩
    · exact .inl q
    · exact .inr ⟨j, h1, h2⟩
  rw [← ct_one h24 (r 0), ← ct_one h24 (r 2), ← fb_ct_or (fun j hj => by
    rintro ⟨a, b⟩
    rw [decide_eq_true_iff] at a b
    rcases tch_in (s := 0) hi with q | ⟨j1, h1, h2, _, h3⟩
    · rw [q] at a; exact nI_ne (by omega) a.symm
    · rcases tch_in (s := 2) hi with q | ⟨j2, h4, h5, _, h6⟩
      · rw [q] at b; exact nI_ne (by omega) b.symm
      · have e1 : j1 = j := nI_inj (by omega) (by omega) (h2.symm.trans a)
        have e2 : j2 = j := nI_inj (by omega) (by omega) (h5.symm.trans b)
        subst e1; subst e2
        simp only [nbp] at h3 h6
        split at h3 <;> split at h6 <;> simp at h3 h6
        omega)]
  refine fb_ct_cong (fun j hj => ?_)
  rw [Bool.eq_iff_iff, Bool.and_eq_true, Bool.or_eq_true, decide_eq_true_iff, decide_eq_true_iff, decide_eq_true_iff]
  unfold tcQ
  rw [cd_iff]
  constructor
  · rintro ⟨h1, h2⟩
    have h3 := pl_lt h1 hj
    have h4 := (pl_spec hj).1
    rcases h2 with ⟨a, b⟩ | ⟨a, b⟩ | a | a
    · exact .inl (tch_of hj (by simp only [nbp]; rw [if_pos b, a]))
    · omega
    · exact .inr (tch_of hj (by simp only [nbp]; rw [if_pos (by omega), a]))
    · omega
  · intro h
    have key : ∀ s, (s = 0 ∨ s = 2) → tch F i s = nI j → i < j ∧ adj (pl F i) (pl F j) := by
      intro s hs e
      rcases tch_in (s := s) hi with q | ⟨j1, h1, h2, h3, h4⟩
      · rw [q] at e; exact absurd e.symm (nI_ne (by omega))
      · have : j1 = j := nI_inj (by omega) (by omega) (h2.symm.trans e)
        subst this
        refine ⟨?_, h3⟩
        rw [← pl_ltI hi h1]
        rcases hs with rfl | rfl
        · simp only [nbp] at h4; split at h4 <;> simp at h4; omega
        · simp only [nbp] at h4; split at h4 <;> simp at h4; omega
    rcases h with h | h
    · exact key 0 (.inl rfl) h
    · exact key 2 (.inr rfl) h
theorem tcN_le {F : Nat} (h24 : pop F ≤ 24) : tcN F ≤ 576 := by
  have h1 := pr_le (Q := tcQ F) (N := pop F) (i := pop F)
  have h3 : pop F * pop F ≤ 24 * 24 := Nat.mul_le_mul h24 h24
  unfold tcN; omega
theorem s_touching {X : Nat × (Nat → Int32)} {d : Nat} {M : Mem} {W F : Nat} (hd : 3 ≤ d) (hW : WG M W F) : callF X d 101 [.ref W] M = some (some (.int (nI (tcN F))), M) := by
  have h24 := hW.2.2.1
  have hc := hW.2.2.2.2.1
  have h1 := hW.1.1
  refine callF_at (by omega) (by decide) (Nat.le_of_ble_eq_true rfl) (fun d _ => ?_)
  show Ev X d 101 0 [.ref W, .retAddr 0, .retAddr 0] [] M _
  simp (disch := first | omega | assumption | exact rfl) only [U_101_0, XX, QQ, WW, KK, QX, SHs, RRs, Nat.reduceAdd, Nat.reduceMul, Nat.reduceLeDiff, Nat.reduceEqDiff, List.length_cons, List.length_nil, decide_true, decide_false, Bool.true_and, Bool.and_true, Bool.false_and, Bool.and_false, false_and, and_false, Bool.false_eq_true, Bool.true_eq_false, reduceCtorEq, eq_self, if_true, if_false, true_and, and_true, not_true_eq_false, not_false_eq_true, if_pos, if_neg, z_ite_not, false_or, or_false, true_or, or_true, SWs, swk_0, swk_1]
  refine lp0 (n := pop F) (P := fun i => Ev X d 101 1 [.ref W, .int (nI (fb_sm (fun i => fb_ct (fun j => decide (i < j) && tcQ F i j) (pop F)) i)), .int (nI i)] [] M (some (.int (nI (tcN F))), M)) ?_ ?_
  · rw [U_101_1]
    simp (disch := first | omega | assumption | exact rfl) only [U_101_9, XX, QQ, WW, KK, QX, SHs, RRs, Nat.reduceAdd, Nat.reduceMul, Nat.reduceLeDiff, Nat.reduceEqDiff, List.length_cons, List.length_nil, decide_true, decide_false, Bool.true_and, Bool.and_true, Bool.false_and, Bool.and_false, false_and, and_false, Bool.false_eq_true, Bool.true_eq_false, reduceCtorEq, eq_self, if_true, if_false, true_and, and_true, not_true_eq_false, not_false_eq_true, if_pos, if_neg, z_ite_not, false_or, or_false, true_or, or_true, SWs, swk_0, swk_1, h1, hc]
    rfl
  · intro i hi ih
    rw [U_101_1]
    rw [fb_sm_succ, tc_row h24 hi] at ih
    have bd := pr_le (Q := tcQ F) (N := pop F) (i := i)
    have h3 : i * pop F ≤ 24 * 24 := Nat.mul_le_mul (by omega) h24
    have c0 := s_cellBeside (X := X) (d := d) (s := 0) (by omega) hW hi (by decide)
    have c2 := s_cellBeside (X := X) (d := d) (s := 2) (by omega) hW hi (by decide)
    by_cases z0 : tch F i 0 = -1
    · rw [if_pos z0] at ih
      rw [z0] at c0
      by_cases z2 : tch F i 2 = -1
      · rw [if_pos z2] at ih
        rw [z2] at c2
        simp (disch := first | omega | assumption | exact rfl) only [U_101_2, U_101_3, U_101_4, U_101_5, U_101_6, U_101_7, U_101_8, XX, QQ, WW, KK, QX, SHs, RRs, Nat.reduceAdd, Nat.reduceMul, Nat.reduceLeDiff, Nat.reduceEqDiff, List.length_cons, List.length_nil, decide_true, decide_false, Bool.true_and, Bool.and_true, Bool.false_and, Bool.and_false, false_and, and_false, Bool.false_eq_true, Bool.true_eq_false, reduceCtorEq, eq_self, if_true, if_false, true_and, and_true, not_true_eq_false, not_false_eq_true, if_pos, if_neg, z_ite_not, false_or, or_false, true_or, or_true, SWs, swk_0, swk_1, h1, hc, c0, c2, Nat.add_zero] at ih ⊢
        exact ih
      · rw [if_neg z2] at ih
        simp (disch := first | omega | assumption | exact rfl) only [U_101_2, U_101_3, U_101_4, U_101_5, U_101_6, U_101_7, U_101_8, XX, QQ, WW, KK, QX, SHs, RRs, Nat.reduceAdd, Nat.reduceMul, Nat.reduceLeDiff, Nat.reduceEqDiff, List.length_cons, List.length_nil, decide_true, decide_false, Bool.true_and, Bool.and_true, Bool.false_and, Bool.and_false, false_and, and_false, Bool.false_eq_true, Bool.true_eq_false, reduceCtorEq, eq_self, if_true, if_false, true_and, and_true, not_true_eq_false, not_false_eq_true, if_pos, if_neg, z_ite_not, false_or, or_false, true_or, or_true, SWs, swk_0, swk_1, h1, hc, c0, c2, z2, Nat.add_zero, Nat.zero_add] at ih ⊢
        exact ih
    · rw [if_neg z0] at ih
      by_cases z2 : tch F i 2 = -1
      · rw [if_pos z2] at ih
        rw [z2] at c2
        simp (disch := first | omega | assumption | exact rfl) only [U_101_2, U_101_3, U_101_4, U_101_5, U_101_6, U_101_7, U_101_8, XX, QQ, WW, KK, QX, SHs, RRs, Nat.reduceAdd, Nat.reduceMul, Nat.reduceLeDiff, Nat.reduceEqDiff, List.length_cons, List.length_nil, decide_true, decide_false, Bool.true_and, Bool.and_true, Bool.false_and, Bool.and_false, false_and, and_false, Bool.false_eq_true, Bool.true_eq_false, reduceCtorEq, eq_self, if_true, if_false, true_and, and_true, not_true_eq_false, not_false_eq_true, if_pos, if_neg, z_ite_not, false_or, or_false, true_or, or_true, SWs, swk_0, swk_1, h1, hc, c0, c2, z0, Nat.add_zero] at ih ⊢
        exact ih
      · rw [if_neg z2] at ih
        simp (disch := first | omega | assumption | exact rfl) only [U_101_2, U_101_3, U_101_4, U_101_5, U_101_6, U_101_7, U_101_8, XX, QQ, WW, KK, QX, SHs, RRs, Nat.reduceAdd, Nat.reduceMul, Nat.reduceLeDiff, Nat.reduceEqDiff, List.length_cons, List.length_nil, decide_true, decide_false, Bool.true_and, Bool.and_true, Bool.false_and, Bool.and_false, false_and, and_false, Bool.false_eq_true, Bool.true_eq_false, reduceCtorEq, eq_self, if_true, if_false, true_and, and_true, not_true_eq_false, not_false_eq_true, if_pos, if_neg, z_ite_not, false_or, or_false, true_or, or_true, SWs, swk_0, swk_1, h1, hc, c0, c2, z0, z2, Nat.add_assoc] at ih ⊢
        exact ih
theorem b_met {X : Nat × (Nat → Int32)} {d : Nat} {I : Nat → Nat → Int32} {J : Nat → Nat → Int64} {u : Int32} (hd : 6 ≤ d) (h : Inv I J) : Both X d 135 238 [.int u] I J := by
  obtain ⟨n, S, n60, h8, h4, hh⟩ := Inv_hi h
  obtain ⟨fi, f1, f2, f3, f4⟩ := Inv_mt h
  obtain ⟨FW, hw⟩ := Inv_wl h
  obtain ⟨s0, al, be, yr, s1, s2, s3, s4, s5, s6, s7, s8, s9⟩ := Inv_sc h
  obtain ⟨hG, hB, hR⟩ := hw 0 (by decide)
  have h24 := hG.2.2.1
  rcases of_d u 5 6 rfl (by decide) with ⟨c, hc, rfl⟩ | ⟨o1, o2⟩
  · obtain rfl | rfl | rfl | rfl | rfl | rfl : c = 0 ∨ c = 1 ∨ c = 2 ∨ c = 3 ∨ c = 4 ∨ c = 5 := by omega
    · refine Both_0 (nI (metN fi)) h ?_ ?_
      · refine callF_at (by omega) (by decide) (Nat.le_of_ble_eq_true rfl) (fun d _ => ?_)
        show Ev X d 135 0 [.ref 0, .int (nI 0)] [] ( mk I J) _
        simp (disch := first | omega | assumption | exact rfl) only [U_135_0, U_135_1, U_135_2, U_135_3, U_135_4, U_135_5, U_135_6, U_135_7, XX, QQ, WW, KK, QX, SHs, RRs, Nat.reduceAdd, Nat.reduceMul, Nat.reduceLeDiff, Nat.reduceEqDiff, List.length_cons, List.length_nil, decide_true, decide_false, Bool.true_and, Bool.and_true, Bool.false_and, Bool.and_false, false_and, and_false, Bool.false_eq_true, Bool.true_eq_false, reduceCtorEq, eq_self, if_true, if_false, true_and, and_true, not_true_eq_false, not_false_eq_true, if_pos, if_neg, z_ite_not, false_or, or_false, true_or, or_true, SWs, swk_0, swk_1, f4]
      · refine callF_at (by omega) (by decide) (Nat.le_of_ble_eq_true rfl) (fun d _ => ?_)
        show Ev X d 238 0 [.ref 177, .int (nI 0)] [] ( mk I J) _
        have r := r_metOnes (X := X) (d := d) (J := J) (by omega) (fun b hb => (f2 b hb).2)
        simp (disch := first | omega | assumption | exact rfl) only [U_238_0, U_238_1, U_238_2, U_238_3, U_238_4, U_238_5, U_238_6, U_238_7, XX, QQ, WW, KK, QX, SHs, RRs, Nat.reduceAdd, Nat.reduceMul, Nat.reduceLeDiff, Nat.reduceEqDiff, List.length_cons, List.length_nil, decide_true, decide_false, Bool.true_and, Bool.and_true, Bool.false_and, Bool.and_false, false_and, and_false, Bool.false_eq_true, Bool.true_eq_false, reduceCtorEq, eq_self, if_true, if_false, true_and, and_true, not_true_eq_false, not_false_eq_true, if_pos, if_neg, z_ite_not, false_or, or_false, true_or, or_true, SWs, swk_0, swk_1, r]
    · refine ⟨nI (nvN (I 15) fi (pop (FW 0))), I, J, Igat I (FW 0) (I 15), ?_, ?_, Inv_FR h FR_gat⟩
      · refine callF_at (by omega) (by decide) (Nat.le_of_ble_eq_true rfl) (fun d _ => ?_)
        show Ev X d 135 0 [.ref 0, .int (nI 1)] [] ( mk I J) _
        have r := c_neverMet (X := X) (d := d) (J := J) (by omega) hG hB (fun b c x y => (f1 b c x y).1) f3
        simp (disch := first | omega | assumption | exact rfl) only [U_135_0, U_135_1, U_135_2, U_135_3, U_135_4, U_135_5, U_135_6, U_135_7, XX, QQ, WW, KK, QX, SHs, RRs, Nat.reduceAdd, Nat.reduceMul, Nat.reduceLeDiff, Nat.reduceEqDiff, List.length_cons, List.length_nil, decide_true, decide_false, Bool.true_and, Bool.and_true, Bool.false_and, Bool.and_false, false_and, and_false, Bool.false_eq_true, Bool.true_eq_false, reduceCtorEq, eq_self, if_true, if_false, true_and, and_true, not_true_eq_false, not_false_eq_true, if_pos, if_neg, z_ite_not, false_or, or_false, true_or, or_true, SWs, swk_0, swk_1, r]
      · refine callF_at (by omega) (by decide) (Nat.le_of_ble_eq_true rfl) (fun d _ => ?_)
        show Ev X d 238 0 [.ref 177, .int (nI 1)] [] ( mk I J) _
        have r := r_never (X := X) (d := d) (J := J) (by omega) hR hB (fun b hb => (f2 b hb).2)
        simp (disch := first | omega | assumption | exact rfl) only [U_238_0, U_238_1, U_238_2, U_238_3, U_238_4, U_238_5, U_238_6, U_238_7, XX, QQ, WW, KK, QX, SHs, RRs, Nat.reduceAdd, Nat.reduceMul, Nat.reduceLeDiff, Nat.reduceEqDiff, List.length_cons, List.length_nil, decide_true, decide_false, Bool.true_and, Bool.and_true, Bool.false_and, Bool.and_false, false_and, and_false, Bool.false_eq_true, Bool.true_eq_false, reduceCtorEq, eq_self, if_true, if_false, true_and, and_true, not_true_eq_false, not_false_eq_true, if_pos, if_neg, z_ite_not, false_or, or_false, true_or, or_true, SWs, swk_0, swk_1, r]
    · refine Both_0 (nI (fb_sm (fun b => pop (anP S b n)) 24 / 2)) h ?_ ?_
      · refine callF_at (by omega) (by decide) (Nat.le_of_ble_eq_true rfl) (fun d _ => ?_)
        show Ev X d 135 0 [.ref 0, .int (nI 2)] [] ( mk I J) _
        have r := c_always (X := X) (d := d) (J := J) (by omega) n60 h8 (fun y hy b hb => ⟨((hh y hy).2.2.2 b hb).1, ((hh y hy).2.2.2 b hb).2.1⟩)
        simp (disch := first | omega | assumption | exact rfl) only [U_135_0, U_135_1, U_135_2, U_135_3, U_135_4, U_135_5, U_135_6, U_135_7, XX, QQ, WW, KK, QX, SHs, RRs, Nat.reduceAdd, Nat.reduceMul, Nat.reduceLeDiff, Nat.reduceEqDiff, List.length_cons, List.length_nil, decide_true, decide_false, Bool.true_and, Bool.and_true, Bool.false_and, Bool.and_false, false_and, and_false, Bool.false_eq_true, Bool.true_eq_false, reduceCtorEq, eq_self, if_true, if_false, true_and, and_true, not_true_eq_false, not_false_eq_true, if_pos, if_neg, z_ite_not, false_or, or_false, true_or, or_true, SWs, swk_0, swk_1, r]
      · refine callF_at (by omega) (by decide) (Nat.le_of_ble_eq_true rfl) (fun d _ => ?_)
        show Ev X d 238 0 [.ref 177, .int (nI 2)] [] ( mk I J) _
        have r := r_always (X := X) (d := d) (J := J) (by omega) n60 h4 (fun y hy b hb => ⟨((hh y hy).2.2.2 b hb).1, ((hh y hy).2.2.2 b hb).2.2.1⟩)
        simp (disch := first | omega | assumption | exact rfl) only [U_238_0, U_238_1, U_238_2, U_238_3, U_238_4, U_238_5, U_238_6, U_238_7, XX, QQ, WW, KK, QX, SHs, RRs, Nat.reduceAdd, Nat.reduceMul, Nat.reduceLeDiff, Nat.reduceEqDiff, List.length_cons, List.length_nil, decide_true, decide_false, Bool.true_and, Bool.and_true, Bool.false_and, Bool.and_false, false_and, and_false, Bool.false_eq_true, Bool.true_eq_false, reduceCtorEq, eq_self, if_true, if_false, true_and, and_true, not_true_eq_false, not_false_eq_true, if_pos, if_neg, z_ite_not, false_or, or_false, true_or, or_true, SWs, swk_0, swk_1, r]
    · have tl := tcN_le h24
      obtain ⟨t, ht⟩ : ∃ t, t = tcN (FW 0) := ⟨_, rfl⟩
      obtain ⟨k, hk⟩ : ∃ k, k = fb_ct (isB (I 15)) (pop (FW 0)) := ⟨_, rfl⟩
      have k24 : k ≤ 24 := by rw [hk]; exact Nat.le_trans (fb_ct_le _ _) h24
      refine ⟨if t = 0 then -1 else (nI k * (nI k - nI 1) / nI 2 + nI t - nI 1) / nI t, I, J, Igat I (FW 0) (I 15), ?_, ?_, Inv_FR h FR_gat⟩
      · refine callF_at (by omega) (by decide) (Nat.le_of_ble_eq_true rfl) (fun d _ => ?_)
        show Ev X d 135 0 [.ref 0, .int (nI 3)] [] ( mk I J) _
        have r1 := fun d hd => s_touching (X := X) (d := d) hd hG
        have r2 := fun d hd => s_bricksIn (X := X) (d := d) hd hG
        rw [← ht] at r1
        rw [k_I, show 14 + 4 * 0 + 1 = 15 from rfl, ← hk] at r2
        have sn : callF X d 136 [.ref 14] (mk I J) = some (some (.int (if t = 0 then -1 else (nI k * (nI k - nI 1) / nI 2 + nI t - nI 1) / nI t)), mk I J) := by
          refine callF_at (by omega) (by decide) (Nat.le_of_ble_eq_true rfl) (fun d _ => ?_)
          show Ev X d 136 0 [.ref 14, .retAddr 0, .retAddr 0] [] (mk I J) _
          have r1 := r1 d (by omega)
          have r2 := r2 d (by omega)
          by_cases z : t = 0
          · rw [if_pos z]
            simp (disch := first | omega | assumption | exact rfl) only [U_136_0, U_136_1, XX, QQ, WW, KK, QX, SHs, RRs, Nat.reduceAdd, Nat.reduceMul, Nat.reduceLeDiff, Nat.reduceEqDiff, List.length_cons, List.length_nil, decide_true, decide_false, Bool.true_and, Bool.and_true, Bool.false_and, Bool.and_false, false_and, and_false, Bool.false_eq_true, Bool.true_eq_false, reduceCtorEq, eq_self, if_true, if_false, true_and, and_true, not_true_eq_false, not_false_eq_true, if_pos, if_neg, z_ite_not, false_or, or_false, true_or, or_true, SWs, swk_0, swk_1, r1]
          · rw [if_neg z]
            have z' : ¬ (nI t = 0) := fun y => by rw [q_eq0 (by omega)] at y; exact z y
            simp (disch := first | omega | assumption | exact rfl) only [U_136_0, U_136_2, XX, KK, SHs, r1, r2, z', n2ne, not_false_eq_true, if_false, if_true, eq_self, true_and, and_true, List.length_cons, List.length_nil, Nat.reduceAdd, Nat.reduceLeDiff, if_pos, if_neg]
        simp (disch := first | omega | assumption | exact rfl) only [U_135_0, U_135_1, U_135_2, U_135_3, U_135_4, U_135_5, U_135_6, U_135_7, XX, QQ, WW, KK, QX, SHs, RRs, Nat.reduceAdd, Nat.reduceMul, Nat.reduceLeDiff, Nat.reduceEqDiff, List.length_cons, List.length_nil, decide_true, decide_false, Bool.true_and, Bool.and_true, Bool.false_and, Bool.and_false, false_and, and_false, Bool.false_eq_true, Bool.true_eq_false, reduceCtorEq, eq_self, if_true, if_false, true_and, and_true, not_true_eq_false, not_false_eq_true, if_pos, if_neg, z_ite_not, false_or, or_false, true_or, or_true, SWs, swk_0, swk_1, sn]
      · refine callF_at (by omega) (by decide) (Nat.le_of_ble_eq_true rfl) (fun d _ => ?_)
        show Ev X d 238 0 [.ref 177, .int (nI 3)] [] ( mk I J) _
        have g178 : Igat I (FW 0) (I 15) 178 = I 178 := by unfold Igat; rw [vu_ne (by decide), vu_ne (by decide)]
        have h370 : I 178 370 = nI (pop (FW 0)) := hR.2.1
        have sn : callF X d 237 [.ref 177] (mk I J) = some (some (.int (if t = 0 then -1 else (nI k * (nI k - nI 1) / nI 2 + nI t - nI 1) / nI t)), mk (Igat I (FW 0) (I 15)) J) := by
          refine callF_at (by omega) (by decide) (Nat.le_of_ble_eq_true rfl) (fun d _ => ?_)
          show Ev X d 237 0 [.ref 177, .retAddr 0, .retAddr 0, .retAddr 0, .retAddr 0] [] (mk I J) _
          have g := r_gathers (X := X) (d := d) (J := J) (by omega) (show 0 < 6 by decide) hR
          rw [show 14 + 4 * 0 + 1 = 15 from rfl, ← hk] at g
          simp (disch := first | omega | assumption | exact rfl) only [U_237_0, XX, QQ, WW, KK, QX, SHs, RRs, Nat.reduceAdd, Nat.reduceMul, Nat.reduceLeDiff, Nat.reduceEqDiff, List.length_cons, List.length_nil, decide_true, decide_false, Bool.true_and, Bool.and_true, Bool.false_and, Bool.and_false, false_and, and_false, Bool.false_eq_true, Bool.true_eq_false, reduceCtorEq, eq_self, if_true, if_false, true_and, and_true, not_true_eq_false, not_false_eq_true, if_pos, if_neg, z_ite_not, false_or, or_false, true_or, or_true, SWs, swk_0, swk_1, g]
          refine lpI (n := pop (FW 0)) (P := fun i => ∀ u4 : Value, Ev X d 237 1 [.ref 177, .int (nI k), .int (nI (prN (tcQ (FW 0)) (pop (FW 0)) i 0)), .int (nI i), u4] [] (mk (Igat I (FW 0) (I 15)) J) (some (.int (if t = 0 then -1 else (nI k * (nI k - nI 1) / nI 2 + nI t - nI 1) / nI t)), mk (Igat I (FW 0) (I 15)) J)) ?_ ?_ (fun L => L _)
          · intro u4
            have et : prN (tcQ (FW 0)) (pop (FW 0)) (pop (FW 0)) 0 = t := by rw [prN_e, ht]; rfl
            rw [U_237_1, et]
            by_cases z : t = 0
            · rw [if_pos z]
              simp (disch := first | omega | assumption | exact rfl) only [U_237_9, U_237_10, U_237_11, U_237_12, XX, QQ, WW, KK, QX, SHs, RRs, Nat.reduceAdd, Nat.reduceMul, Nat.reduceLeDiff, Nat.reduceEqDiff, List.length_cons, List.length_nil, decide_true, decide_false, Bool.true_and, Bool.and_true, Bool.false_and, Bool.and_false, false_and, and_false, Bool.false_eq_true, Bool.true_eq_false, reduceCtorEq, eq_self, if_true, if_false, true_and, and_true, not_true_eq_false, not_false_eq_true, if_pos, if_neg, z_ite_not, false_or, or_false, true_or, or_true, SWs, swk_0, swk_1, g178, h370]
            · rw [if_neg z]
              have z' : ¬ (nI t = 0) := fun y => by rw [q_eq0 (by omega)] at y; exact z y
              simp (disch := first | omega | assumption | exact rfl) only [U_237_9, U_237_11, U_237_12, XX, KK, SHs, RRs, g178, h370, q_inb, q_cl, q_le, z', n2ne, if_false, if_true, eq_self, true_and, and_true, List.length_cons, List.length_nil, Nat.reduceAdd, Nat.reduceLeDiff, if_pos, if_neg, not_false_eq_true]
          · intro i hi ih u4
            rw [U_237_1]
            simp (disch := first | omega | assumption | exact rfl) only [U_237_2, XX, QQ, WW, KK, QX, SHs, RRs, Nat.reduceAdd, Nat.reduceMul, Nat.reduceLeDiff, Nat.reduceEqDiff, List.length_cons, List.length_nil, decide_true, decide_false, Bool.true_and, Bool.and_true, Bool.false_and, Bool.and_false, false_and, and_false, Bool.false_eq_true, Bool.true_eq_false, reduceCtorEq, eq_self, if_true, if_false, true_and, and_true, not_true_eq_false, not_false_eq_true, if_pos, if_neg, z_ite_not, false_or, or_false, true_or, or_true, SWs, swk_0, swk_1, g178, h370]
            have hR' : RWl (Igat I (FW 0) (I 15) 178) 0 (FW 0) (I 15) := by rw [g178]; exact hR
            have L := lpd (n := pop (FW 0)) (P := fun j => i < j → Ev X d 237 3 [.ref 177, .int (nI k), .int (nI (prN (tcQ (FW 0)) (pop (FW 0)) i j)), .int (nI i), .int (nI j)] [] (mk (Igat I (FW 0) (I 15)) J) (some (.int (if t = 0 then -1 else (nI k * (nI k - nI 1) / nI 2 + nI t - nI 1) / nI t)), mk (Igat I (FW 0) (I 15)) J)) (by
              intro _
              rw [U_237_3, prN_r]
              simp (disch := first | omega | assumption | exact rfl) only [U_237_8, XX, QQ, WW, KK, QX, SHs, RRs, Nat.reduceAdd, Nat.reduceMul, Nat.reduceLeDiff, Nat.reduceEqDiff, List.length_cons, List.length_nil, decide_true, decide_false, Bool.true_and, Bool.and_true, Bool.false_and, Bool.and_false, false_and, and_false, Bool.false_eq_true, Bool.true_eq_false, reduceCtorEq, eq_self, if_true, if_false, true_and, and_true, not_true_eq_false, not_false_eq_true, if_pos, if_neg, z_ite_not, false_or, or_false, true_or, or_true, SWs, swk_0, swk_1, g178, h370]
              exact ih _) (by
              intro j hj ihj hij
              rw [U_237_3]
              have q := ihj (by omega)
              rw [prN_s hij] at q
              have bd := prN_b (Q := tcQ (FW 0)) (N := pop (FW 0)) (i := i) (j := j) (by omega) (by omega) h24
              have wt := r_wallTouch (X := X) (d := d) (J := J) (by omega) (show 0 < 6 by decide) hR' hi hj
              by_cases y : adj (pl (FW 0) i) (pl (FW 0) j)
              · have cy := cd_iff.mpr y
                rw [if_pos (show tcQ (FW 0) i j = true from cy)] at q
                simp (disch := first | omega | assumption | exact rfl) only [U_237_4, U_237_5, U_237_6, U_237_7, XX, QQ, WW, KK, QX, SHs, RRs, Nat.reduceAdd, Nat.reduceMul, Nat.reduceLeDiff, Nat.reduceEqDiff, List.length_cons, List.length_nil, decide_true, decide_false, Bool.true_and, Bool.and_true, Bool.false_and, Bool.and_false, false_and, and_false, Bool.false_eq_true, Bool.true_eq_false, reduceCtorEq, eq_self, if_true, if_false, true_and, and_true, not_true_eq_false, not_false_eq_true, if_pos, if_neg, z_ite_not, false_or, or_false, true_or, or_true, SWs, swk_0, swk_1, g178, h370, wt, cy]
                exact q
              · have cy := cd_f.mpr y
                rw [if_neg (show ¬ tcQ (FW 0) i j = true by unfold tcQ; rw [cy]; simp), Nat.add_zero] at q
                simp (disch := first | omega | assumption | exact rfl) only [U_237_4, U_237_5, U_237_6, U_237_7, XX, QQ, WW, KK, QX, SHs, RRs, Nat.reduceAdd, Nat.reduceMul, Nat.reduceLeDiff, Nat.reduceEqDiff, List.length_cons, List.length_nil, decide_true, decide_false, Bool.true_and, Bool.and_true, Bool.false_and, Bool.and_false, false_and, and_false, Bool.false_eq_true, Bool.true_eq_false, reduceCtorEq, eq_self, if_true, if_false, true_and, and_true, not_true_eq_false, not_false_eq_true, if_pos, if_neg, z_ite_not, false_or, or_false, true_or, or_true, SWs, swk_0, swk_1, g178, h370, wt, cy, Nat.add_zero]
                exact q) (i + 1) (by omega) (by omega)
            rw [prN_0] at L
            exact L
        simp (disch := first | omega | assumption | exact rfl) only [U_238_0, U_238_1, U_238_2, U_238_3, U_238_4, U_238_5, U_238_6, U_238_7, XX, QQ, WW, KK, QX, SHs, RRs, Nat.reduceAdd, Nat.reduceMul, Nat.reduceLeDiff, Nat.reduceEqDiff, List.length_cons, List.length_nil, decide_true, decide_false, Bool.true_and, Bool.and_true, Bool.false_and, Bool.and_false, false_and, and_false, Bool.false_eq_true, Bool.true_eq_false, reduceCtorEq, eq_self, if_true, if_false, true_and, and_true, not_true_eq_false, not_false_eq_true, if_pos, if_neg, z_ite_not, false_or, or_false, true_or, or_true, SWs, swk_0, swk_1, sn]
    · refine Both_0 (nI yr) h ?_ ?_
      · refine callF_at (by omega) (by decide) (Nat.le_of_ble_eq_true rfl) (fun d _ => ?_)
        show Ev X d 135 0 [.ref 0, .int (nI 4)] [] ( mk I J) _
        simp (disch := first | omega | assumption | exact rfl) only [U_135_0, U_135_1, U_135_2, U_135_3, U_135_4, U_135_5, U_135_6, U_135_7, XX, QQ, WW, KK, QX, SHs, RRs, Nat.reduceAdd, Nat.reduceMul, Nat.reduceLeDiff, Nat.reduceEqDiff, List.length_cons, List.length_nil, decide_true, decide_false, Bool.true_and, Bool.and_true, Bool.false_and, Bool.and_false, false_and, and_false, Bool.false_eq_true, Bool.true_eq_false, reduceCtorEq, eq_self, if_true, if_false, true_and, and_true, not_true_eq_false, not_false_eq_true, if_pos, if_neg, z_ite_not, false_or, or_false, true_or, or_true, SWs, swk_0, swk_1, s8]
      · refine callF_at (by omega) (by decide) (Nat.le_of_ble_eq_true rfl) (fun d _ => ?_)
        show Ev X d 238 0 [.ref 177, .int (nI 4)] [] ( mk I J) _
        simp (disch := first | omega | assumption | exact rfl) only [U_238_0, U_238_1, U_238_2, U_238_3, U_238_4, U_238_5, U_238_6, U_238_7, XX, QQ, WW, KK, QX, SHs, RRs, Nat.reduceAdd, Nat.reduceMul, Nat.reduceLeDiff, Nat.reduceEqDiff, List.length_cons, List.length_nil, decide_true, decide_false, Bool.true_and, Bool.and_true, Bool.false_and, Bool.and_false, false_and, and_false, Bool.false_eq_true, Bool.true_eq_false, reduceCtorEq, eq_self, if_true, if_false, true_and, and_true, not_true_eq_false, not_false_eq_true, if_pos, if_neg, z_ite_not, false_or, or_false, true_or, or_true, SWs, swk_0, swk_1, s9]
    · refine Both_0 (nI n) h ?_ ?_
      · refine callF_at (by omega) (by decide) (Nat.le_of_ble_eq_true rfl) (fun d _ => ?_)
        show Ev X d 135 0 [.ref 0, .int (nI 5)] [] ( mk I J) _
        simp (disch := first | omega | assumption | exact rfl) only [U_135_0, U_135_1, U_135_2, U_135_3, U_135_4, U_135_5, U_135_6, U_135_7, XX, QQ, WW, KK, QX, SHs, RRs, Nat.reduceAdd, Nat.reduceMul, Nat.reduceLeDiff, Nat.reduceEqDiff, List.length_cons, List.length_nil, decide_true, decide_false, Bool.true_and, Bool.and_true, Bool.false_and, Bool.and_false, false_and, and_false, Bool.false_eq_true, Bool.true_eq_false, reduceCtorEq, eq_self, if_true, if_false, true_and, and_true, not_true_eq_false, not_false_eq_true, if_pos, if_neg, z_ite_not, false_or, or_false, true_or, or_true, SWs, swk_0, swk_1, h8]
      · refine callF_at (by omega) (by decide) (Nat.le_of_ble_eq_true rfl) (fun d _ => ?_)
        show Ev X d 238 0 [.ref 177, .int (nI 5)] [] ( mk I J) _
        simp (disch := first | omega | assumption | exact rfl) only [U_238_0, U_238_1, U_238_2, U_238_3, U_238_4, U_238_5, U_238_6, U_238_7, XX, QQ, WW, KK, QX, SHs, RRs, Nat.reduceAdd, Nat.reduceMul, Nat.reduceLeDiff, Nat.reduceEqDiff, List.length_cons, List.length_nil, decide_true, decide_false, Bool.true_and, Bool.and_true, Bool.false_and, Bool.and_false, false_and, and_false, Bool.false_eq_true, Bool.true_eq_false, reduceCtorEq, eq_self, if_true, if_false, true_and, and_true, not_true_eq_false, not_false_eq_true, if_pos, if_neg, z_ite_not, false_or, or_false, true_or, or_true, SWs, swk_0, swk_1, h4]
  · have nc : ∀ c, c < 6 → ¬ u = nI c := fun c hc z => by
      subst z
      have a1 := nI_pos' (show c < 2 ^ 31 by omega)
      have a2 := nI_lt hc (by decide)
      simp [a1, a2] at o1
    have c0 := nc 0 (by decide); have c1 := nc 1 (by decide); have c2 := nc 2 (by decide); have c3 := nc 3 (by decide); have c4 := nc 4 (by decide); have c5 := nc 5 (by decide)
    refine Both_0 (-1) h ?_ ?_
    · refine callF_at (by omega) (by decide) (Nat.le_of_ble_eq_true rfl) (fun d _ => ?_)
      show Ev X d 135 0 [.ref 0, .int u] [] ( mk I J) _
      simp (disch := first | omega | assumption | exact rfl) only [U_135_0, U_135_7, XX, QQ, WW, KK, QX, SHs, RRs, Nat.reduceAdd, Nat.reduceMul, Nat.reduceLeDiff, Nat.reduceEqDiff, List.length_cons, List.length_nil, decide_true, decide_false, Bool.true_and, Bool.and_true, Bool.false_and, Bool.and_false, false_and, and_false, Bool.false_eq_true, Bool.true_eq_false, reduceCtorEq, eq_self, if_true, if_false, true_and, and_true, not_true_eq_false, not_false_eq_true, if_pos, if_neg, z_ite_not, false_or, or_false, true_or, or_true, SWs, swk_0, swk_1, c0, c1, c2, c3, c4, c5]
    · refine callF_at (by omega) (by decide) (Nat.le_of_ble_eq_true rfl) (fun d _ => ?_)
      show Ev X d 238 0 [.ref 177, .int u] [] ( mk I J) _
      simp (disch := first | omega | assumption | exact rfl) only [U_238_0, U_238_7, XX, QQ, WW, KK, QX, SHs, RRs, Nat.reduceAdd, Nat.reduceMul, Nat.reduceLeDiff, Nat.reduceEqDiff, List.length_cons, List.length_nil, decide_true, decide_false, Bool.true_and, Bool.and_true, Bool.false_and, Bool.and_false, false_and, and_false, Bool.false_eq_true, Bool.true_eq_false, reduceCtorEq, eq_self, if_true, if_false, true_and, and_true, not_true_eq_false, not_false_eq_true, if_pos, if_neg, z_ite_not, false_or, or_false, true_or, or_true, SWs, swk_0, swk_1, c0, c1, c2, c3, c4, c5]
