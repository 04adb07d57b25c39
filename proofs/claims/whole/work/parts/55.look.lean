/-! ===== gathering bricks; look; cell ===== -/
def kth (p : Nat → Bool) (N n : Nat) : Nat := fa_first (fun i => p i && decide (fb_ct p i = n)) N
theorem kth_spec {p : Nat → Bool} {N n : Nat} (h : n < fb_ct p N) : kth p N n < N ∧ p (kth p N n) = true ∧ fb_ct p (kth p N n) = n := by
  obtain ⟨i, hi, h1, h2⟩ := fb_ct_kth (p := p) (n := N) h
  have hle := fa_first_le (fun i => p i && decide (fb_ct p i = n)) N
  have hlt : kth p N n < N := by
    rcases Nat.lt_or_ge (kth p N n) N with q | q
    · exact q
    · have := fa_first_no (fun i => p i && decide (fb_ct p i = n)) N i (by unfold kth at q; omega)
      rw [h1, Bool.true_and] at this
      exact absurd h2 (of_decide_eq_false this)
  have := fa_first_yes (fun i => p i && decide (fb_ct p i = n)) N hlt
  rw [Bool.and_eq_true, decide_eq_true_iff] at this
  exact ⟨hlt, this.1, this.2⟩
theorem kth_lt {p : Nat → Bool} {N i : Nat} (hi : i < N) (h : p i = true) : fb_ct p i < fb_ct p N := by
  have h1 : fb_ct p (i + 1) = fb_ct p i + 1 := by rw [fb_ct_succ, if_pos h]
  have h2 : fb_ct p (i + 1) ≤ fb_ct p N := fb_ct_mono _ (by omega)
  omega
theorem kth_ct {p : Nat → Bool} {N i : Nat} (hi : i < N) (h : p i = true) : kth p N (fb_ct p i) = i := by
  obtain ⟨_, h2, h3⟩ := kth_spec (kth_lt hi h)
  exact fb_ct_kth_one h2 h h3
theorem kth_mono {p : Nat → Bool} {N m n : Nat} (hmn : m < n) (h : n < fb_ct p N) : kth p N m < kth p N n := by
  have a := kth_spec (p := p) (N := N) (n := m) (by omega)
  have b := kth_spec h
  rcases Nat.lt_or_ge (kth p N m) (kth p N n) with q | q
  · exact q
  · have := fb_ct_mono p q; omega
def gatB (B : Nat → Int32) (N i : Nat) (g : Nat → Int32) : Nat → Int32 := fun n => if n < fb_ct (isB B) i then B (kth (isB B) N n) else g n
def gatO (B : Nat → Int32) (N i : Nat) (g : Nat → Int32) : Nat → Int32 := fun n => if n < fb_ct (isB B) i then nI (kth (isB B) N n) else g n
def Igat (I : Nat → Nat → Int32) (F : Nat) (B : Nat → Int32) : Nat → Nat → Int32 := va_up (va_up I 189 (gatB B (pop F) (pop F) (I 189))) 192 (gatO B (pop F) (pop F) (I 192))
theorem gat_0 {B g : Nat → Int32} {N : Nat} : gatB B N 0 g = g ∧ gatO B N 0 g = g := ⟨by funext n; unfold gatB; rw [if_neg (by simp [fb_ct])], by funext n; unfold gatO; rw [if_neg (by simp [fb_ct])]⟩
theorem gat_n {B g : Nat → Int32} {N i : Nat} (h : B i = -1) : gatB B N (i + 1) g = gatB B N i g ∧ gatO B N (i + 1) g = gatO B N i g ∧ fb_ct (isB B) (i + 1) = fb_ct (isB B) i := by
  have e : fb_ct (isB B) (i + 1) = fb_ct (isB B) i := by rw [fb_ct_succ]; simp [isB, h]
  unfold gatB gatO
  rw [e]
  exact ⟨rfl, rfl, rfl⟩
theorem gat_s {B g : Nat → Int32} {N i : Nat} (hi : i < N) (h : ¬ B i = -1) : va_up (gatB B N i g) (fb_ct (isB B) i) (B i) = gatB B N (i + 1) g ∧ va_up (gatO B N i g) (fb_ct (isB B) i) (nI i) = gatO B N (i + 1) g ∧ fb_ct (isB B) (i + 1) = fb_ct (isB B) i + 1 := by
  have hb : isB B i = true := by simp [isB, h]
  have e : fb_ct (isB B) (i + 1) = fb_ct (isB B) i + 1 := by rw [fb_ct_succ, if_pos hb]
  refine ⟨?_, ?_, e⟩
  · funext n; unfold va_up gatB
    rw [e]
    by_cases z : n = fb_ct (isB B) i
    · rw [if_pos z, if_pos (by omega), z, kth_ct hi hb]
    · rw [if_neg z]
      by_cases z2 : n < fb_ct (isB B) i
      · rw [if_pos z2, if_pos (by omega)]
      · rw [if_neg z2, if_neg (by omega)]
  · funext n; unfold va_up gatO
    rw [e]
    by_cases z : n = fb_ct (isB B) i
    · rw [if_pos z, if_pos (by omega), z, kth_ct hi hb]
    · rw [if_neg z]
      by_cases z2 : n < fb_ct (isB B) i
      · rw [if_pos z2, if_pos (by omega)]
      · rw [if_neg z2, if_neg (by omega)]
theorem r_gathers {X : Nat × (Nat → Int32)} {d : Nat} {I : Nat → Nat → Int32} {J : Nat → Nat → Int64} {a F : Nat} {B : Nat → Int32} (hd : 2 ≤ d) (ha : a < 6) (hR : RWl (I 178) a F B) : callF X d 216 [.ref 177, .int (nI a)] (mk I J) = some (some (.int (nI (fb_ct (isB B) (pop F)))), mk (Igat I F B) J) := by
  obtain ⟨h24, h1, h2, h3⟩ := hR
  refine callF_at (by omega) (by decide) (Nat.le_of_ble_eq_true rfl) (fun d _ => ?_)
  show Ev X d 216 0 [.ref 177, .int (nI a), .retAddr 0, .retAddr 0] [] ( mk I J) _
  simp (disch := first | omega | assumption | exact rfl) only [U_216_0, XX, QQ, WW, KK, QX, SHs, RRs, Nat.reduceAdd, Nat.reduceMul, Nat.reduceLeDiff, Nat.reduceEqDiff, List.length_cons, List.length_nil, decide_true, decide_false, Bool.true_and, Bool.and_true, Bool.false_and, Bool.and_false, false_and, and_false, Bool.false_eq_true, Bool.true_eq_false, reduceCtorEq, eq_self, if_true, if_false, true_and, and_true, not_true_eq_false, not_false_eq_true, if_pos, if_neg, z_ite_not, false_or, or_false, true_or, or_true, SWs, swk_0, swk_1]
  refine lpI (n := pop F) (P := fun i => Ev X d 216 1 [.ref 177, .int (nI a), .int (nI (fb_ct (isB B) i)), .int (nI i)] [] (mk (va_up (va_up I 189 (gatB B (pop F) i (I 189))) 192 (gatO B (pop F) i (I 192))) J) (some (.int (nI (fb_ct (isB B) (pop F)))), mk (Igat I F B) J)) ?_ ?_ (fun L => by rw [gat_0.1, gat_0.2, vu_id, vu_id] at L; exact L)
  · rw [U_216_1]
    simp (disch := first | omega | assumption | exact rfl) only [U_216_6, XX, QQ, WW, KK, QX, SHs, RRs, Nat.reduceAdd, Nat.reduceMul, Nat.reduceLeDiff, Nat.reduceEqDiff, List.length_cons, List.length_nil, decide_true, decide_false, Bool.true_and, Bool.and_true, Bool.false_and, Bool.and_false, false_and, and_false, Bool.false_eq_true, Bool.true_eq_false, reduceCtorEq, eq_self, if_true, if_false, true_and, and_true, not_true_eq_false, not_false_eq_true, if_pos, if_neg, z_ite_not, false_or, or_false, true_or, or_true, SWs, swk_0, swk_1, h1]
    rfl
  · intro i hi ih
    rw [U_216_1]
    have e := h3 i (by omega)
    by_cases z : B i = -1
    · obtain ⟨e1, e2, e3⟩ := gat_n (g := I 189) (N := pop F) z
      obtain ⟨_, e4, _⟩ := gat_n (g := I 192) (N := pop F) z
      rw [e1, e4, e3] at ih
      rw [z] at e
      simp (disch := first | omega | assumption | exact rfl) only [U_216_2, U_216_3, U_216_5, XX, QQ, WW, KK, QX, SHs, RRs, Nat.reduceAdd, Nat.reduceMul, Nat.reduceLeDiff, Nat.reduceEqDiff, List.length_cons, List.length_nil, decide_true, decide_false, Bool.true_and, Bool.and_true, Bool.false_and, Bool.and_false, false_and, and_false, Bool.false_eq_true, Bool.true_eq_false, reduceCtorEq, eq_self, if_true, if_false, true_and, and_true, not_true_eq_false, not_false_eq_true, if_pos, if_neg, z_ite_not, false_or, or_false, true_or, or_true, SWs, swk_0, swk_1, h1, r_brick, e]
      exact ih
    · obtain ⟨e1, _, e3⟩ := gat_s (g := I 189) hi z
      obtain ⟨_, e4, _⟩ := gat_s (g := I 192) hi z
      rw [← e1, ← e4, e3] at ih
      have hl := fb_ct_le (isB B) i
      simp (disch := first | omega | assumption | exact rfl) only [U_216_2, U_216_4, U_216_5, XX, QQ, WW, KK, QX, SHs, RRs, Nat.reduceAdd, Nat.reduceMul, Nat.reduceLeDiff, Nat.reduceEqDiff, List.length_cons, List.length_nil, decide_true, decide_false, Bool.true_and, Bool.and_true, Bool.false_and, Bool.and_false, false_and, and_false, Bool.false_eq_true, Bool.true_eq_false, reduceCtorEq, eq_self, if_true, if_false, true_and, and_true, not_true_eq_false, not_false_eq_true, if_pos, if_neg, z_ite_not, false_or, or_false, true_or, or_true, SWs, swk_0, swk_1, h1, r_brick, e, z, vu_4]
      exact ih
theorem FR_gat {I : Nat → Nat → Int32} {F : Nat} {B : Nat → Int32} : FR I (Igat I F B) := FR_of (fun a h1 h2 => by unfold Igat; rw [vu_ne (by omega), vu_ne (by omega)]) (fun k hk => by unfold Igat; rw [vu_ne (by omega), vu_ne (by omega)])
theorem s_cellsOf {X : Nat × (Nat → Int32)} {d : Nat} {M : Mem} {F : Nat} (hd : 2 ≤ d) (hF : F < 2 ^ 64) (h24 : pop F ≤ 24) : callF X d 153 [.long (lN F)] M = some (some (.int (nI (pop F))), M) := by
  refine callF_at (by omega) (by decide) (Nat.le_of_ble_eq_true rfl) (fun d _ => ?_)
  show Ev X d 153 0 [.long (lN F), .retAddr 0] [] M _
  simp (disch := first | omega | assumption | exact rfl) only [U_153_0, XX, QQ, WW, KK, QX, SHs, RRs, Nat.reduceAdd, Nat.reduceMul, Nat.reduceLeDiff, Nat.reduceEqDiff, List.length_cons, List.length_nil, decide_true, decide_false, Bool.true_and, Bool.and_true, Bool.false_and, Bool.and_false, false_and, and_false, Bool.false_eq_true, Bool.true_eq_false, reduceCtorEq, eq_self, if_true, if_false, true_and, and_true, not_true_eq_false, not_false_eq_true, if_pos, if_neg, z_ite_not, false_or, or_false, true_or, or_true, SWs, swk_0, swk_1, s_bcL]
theorem b_look {X : Nat × (Nat → Int32)} {d : Nat} {I : Nat → Nat → Int32} {J : Nat → Nat → Int64} {u : Int32} (hd : 4 ≤ d) (h : Inv I J) : Both X d 151 258 [.int u] I J := by
  obtain ⟨FW, hw⟩ := Inv_wl h
  obtain ⟨FS, hs⟩ := Inv_sh h
  obtain ⟨s0, al, be, yr, s1, s2, s3, s4, s5, s6, s7, s8, s9⟩ := Inv_sc h
  by_cases h0 : u < 0
  · have n1 : ¬ u = 0 := fun z => by rw [z] at h0; exact absurd h0 (by decide +kernel)
    have n2 : ∀ k, k < 2 ^ 31 → ¬ u = nI k := fun k hk z => by rw [z, q_lt0 hk] at h0; exact h0
    have n3 : ∀ k, k < 2 ^ 31 → u < nI k := fun k hk => fa_trans h0 (nI_pos' hk)
    have n4 : ∀ k, k < 2 ^ 31 → ¬ nI k ≤ u := fun k hk => (fa_of_lt (n3 k hk)).2.1
    have m1 := n2 1 (by decide); have m2 := n2 2 (by decide); have m3 := n3 10 (by decide); have m4 := n3 20 (by decide); have m5 := n3 30 (by decide); have m6 := n4 10 (by decide); have m7 := n4 20 (by decide); have m8 := n4 30 (by decide)
    refine Both_0 (-1) h ?_ ?_
    · refine callF_at (by omega) (by decide) (Nat.le_of_ble_eq_true rfl) (fun d _ => ?_)
      show Ev X d 151 0 [.ref 0, .int u] [] ( mk I J) _
      simp (disch := first | omega | assumption | exact rfl) only [U_151_0, U_151_1, U_151_2, U_151_3, U_151_4, U_151_5, U_151_6, U_151_7, U_151_8, U_151_9, U_151_10, U_151_11, U_151_12, U_151_13, U_151_14, U_151_15, XX, QQ, WW, KK, QX, SHs, RRs, Nat.reduceAdd, Nat.reduceMul, Nat.reduceLeDiff, Nat.reduceEqDiff, List.length_cons, List.length_nil, decide_true, decide_false, Bool.true_and, Bool.and_true, Bool.false_and, Bool.and_false, false_and, and_false, Bool.false_eq_true, Bool.true_eq_false, reduceCtorEq, eq_self, if_true, if_false, true_and, and_true, not_true_eq_false, not_false_eq_true, if_pos, if_neg, z_ite_not, false_or, or_false, true_or, or_true, SWs, swk_0, swk_1, n1, m1, m2, m3, m4, m5]
    · refine callF_at (by omega) (by decide) (Nat.le_of_ble_eq_true rfl) (fun d _ => ?_)
      show Ev X d 258 0 [.ref 177, .int u] [] ( mk I J) _
      simp (disch := first | omega | assumption | exact rfl) only [U_258_0, U_258_1, U_258_2, U_258_3, U_258_4, U_258_5, U_258_6, U_258_7, U_258_8, U_258_9, U_258_10, U_258_11, U_258_12, U_258_13, XX, QQ, WW, KK, QX, SHs, RRs, Nat.reduceAdd, Nat.reduceMul, Nat.reduceLeDiff, Nat.reduceEqDiff, List.length_cons, List.length_nil, decide_true, decide_false, Bool.true_and, Bool.and_true, Bool.false_and, Bool.and_false, false_and, and_false, Bool.false_eq_true, Bool.true_eq_false, reduceCtorEq, eq_self, if_true, if_false, true_and, and_true, not_true_eq_false, not_false_eq_true, if_pos, if_neg, z_ite_not, false_or, or_false, true_or, or_true, SWs, swk_0, swk_1, n1, m1, m2, m6, m7, m8, r_isIn]
  · obtain ⟨k, hk, rfl⟩ := nI_of h0
    by_cases k0 : k = 0
    · subst k0
      refine Both_0 (nI al) h ?_ ?_
      · refine callF_at (by omega) (by decide) (Nat.le_of_ble_eq_true rfl) (fun d _ => ?_)
        show Ev X d 151 0 [.ref 0, .int (nI 0)] [] ( mk I J) _
        simp (disch := first | omega | assumption | exact rfl) only [U_151_0, U_151_1, XX, QQ, WW, KK, QX, SHs, RRs, Nat.reduceAdd, Nat.reduceMul, Nat.reduceLeDiff, Nat.reduceEqDiff, List.length_cons, List.length_nil, decide_true, decide_false, Bool.true_and, Bool.and_true, Bool.false_and, Bool.and_false, false_and, and_false, Bool.false_eq_true, Bool.true_eq_false, reduceCtorEq, eq_self, if_true, if_false, true_and, and_true, not_true_eq_false, not_false_eq_true, if_pos, if_neg, z_ite_not, false_or, or_false, true_or, or_true, SWs, swk_0, swk_1, s4]
      · refine callF_at (by omega) (by decide) (Nat.le_of_ble_eq_true rfl) (fun d _ => ?_)
        show Ev X d 258 0 [.ref 177, .int (nI 0)] [] ( mk I J) _
        simp (disch := first | omega | assumption | exact rfl) only [U_258_0, U_258_1, XX, QQ, WW, KK, QX, SHs, RRs, Nat.reduceAdd, Nat.reduceMul, Nat.reduceLeDiff, Nat.reduceEqDiff, List.length_cons, List.length_nil, decide_true, decide_false, Bool.true_and, Bool.and_true, Bool.false_and, Bool.and_false, false_and, and_false, Bool.false_eq_true, Bool.true_eq_false, reduceCtorEq, eq_self, if_true, if_false, true_and, and_true, not_true_eq_false, not_false_eq_true, if_pos, if_neg, z_ite_not, false_or, or_false, true_or, or_true, SWs, swk_0, swk_1, s5]
    by_cases k1 : k = 1
    · subst k1
      refine Both_0 (nI be) h ?_ ?_
      · refine callF_at (by omega) (by decide) (Nat.le_of_ble_eq_true rfl) (fun d _ => ?_)
        show Ev X d 151 0 [.ref 0, .int (nI 1)] [] ( mk I J) _
        simp (disch := first | omega | assumption | exact rfl) only [U_151_0, U_151_1, U_151_2, U_151_3, XX, QQ, WW, KK, QX, SHs, RRs, Nat.reduceAdd, Nat.reduceMul, Nat.reduceLeDiff, Nat.reduceEqDiff, List.length_cons, List.length_nil, decide_true, decide_false, Bool.true_and, Bool.and_true, Bool.false_and, Bool.and_false, false_and, and_false, Bool.false_eq_true, Bool.true_eq_false, reduceCtorEq, eq_self, if_true, if_false, true_and, and_true, not_true_eq_false, not_false_eq_true, if_pos, if_neg, z_ite_not, false_or, or_false, true_or, or_true, SWs, swk_0, swk_1, s6]
      · refine callF_at (by omega) (by decide) (Nat.le_of_ble_eq_true rfl) (fun d _ => ?_)
        show Ev X d 258 0 [.ref 177, .int (nI 1)] [] ( mk I J) _
        simp (disch := first | omega | assumption | exact rfl) only [U_258_0, U_258_1, U_258_2, U_258_3, XX, QQ, WW, KK, QX, SHs, RRs, Nat.reduceAdd, Nat.reduceMul, Nat.reduceLeDiff, Nat.reduceEqDiff, List.length_cons, List.length_nil, decide_true, decide_false, Bool.true_and, Bool.and_true, Bool.false_and, Bool.and_false, false_and, and_false, Bool.false_eq_true, Bool.true_eq_false, reduceCtorEq, eq_self, if_true, if_false, true_and, and_true, not_true_eq_false, not_false_eq_true, if_pos, if_neg, z_ite_not, false_or, or_false, true_or, or_true, SWs, swk_0, swk_1, s7]
    by_cases k2 : k = 2
    · subst k2
      refine Both_0 (I 178 0) h ?_ ?_
      · refine callF_at (by omega) (by decide) (Nat.le_of_ble_eq_true rfl) (fun d _ => ?_)
        show Ev X d 151 0 [.ref 0, .int (nI 2)] [] ( mk I J) _
        simp (disch := first | omega | assumption | exact rfl) only [U_151_0, U_151_1, U_151_2, U_151_3, U_151_4, U_151_5, XX, QQ, WW, KK, QX, SHs, RRs, Nat.reduceAdd, Nat.reduceMul, Nat.reduceLeDiff, Nat.reduceEqDiff, List.length_cons, List.length_nil, decide_true, decide_false, Bool.true_and, Bool.and_true, Bool.false_and, Bool.and_false, false_and, and_false, Bool.false_eq_true, Bool.true_eq_false, reduceCtorEq, eq_self, if_true, if_false, true_and, and_true, not_true_eq_false, not_false_eq_true, if_pos, if_neg, z_ite_not, false_or, or_false, true_or, or_true, SWs, swk_0, swk_1, s0]
      · refine callF_at (by omega) (by decide) (Nat.le_of_ble_eq_true rfl) (fun d _ => ?_)
        show Ev X d 258 0 [.ref 177, .int (nI 2)] [] ( mk I J) _
        simp (disch := first | omega | assumption | exact rfl) only [U_258_0, U_258_1, U_258_2, U_258_3, U_258_4, U_258_5, XX, QQ, WW, KK, QX, SHs, RRs, Nat.reduceAdd, Nat.reduceMul, Nat.reduceLeDiff, Nat.reduceEqDiff, List.length_cons, List.length_nil, decide_true, decide_false, Bool.true_and, Bool.and_true, Bool.false_and, Bool.and_false, false_and, and_false, Bool.false_eq_true, Bool.true_eq_false, reduceCtorEq, eq_self, if_true, if_false, true_and, and_true, not_true_eq_false, not_false_eq_true, if_pos, if_neg, z_ite_not, false_or, or_false, true_or, or_true, SWs, swk_0, swk_1]
    by_cases k3 : 10 ≤ k ∧ k < 16
    · obtain ⟨z1, z2⟩ := k3
      obtain ⟨q1, q2, q3⟩ := hs (k - 10) (by omega)
      have q4 := q3.2.1
      have q5 := q3.1
      rw [show 70 + (k - 10) = 70 + k - 10 by omega] at q4
      refine Both_0 (nI (pop (FS (k - 10)))) h ?_ ?_
      · refine callF_at (by omega) (by decide) (Nat.le_of_ble_eq_true rfl) (fun d _ => ?_)
        show Ev X d 151 0 [.ref 0, .int (nI k)] [] ( mk I J) _
        simp (disch := first | omega | assumption | exact rfl) only [U_151_0, U_151_2, U_151_4, U_151_6, U_151_7, U_151_8, XX, QQ, WW, KK, QX, SHs, RRs, Nat.reduceAdd, Nat.reduceMul, Nat.reduceLeDiff, Nat.reduceEqDiff, List.length_cons, List.length_nil, decide_true, decide_false, Bool.true_and, Bool.and_true, Bool.false_and, Bool.and_false, false_and, and_false, Bool.false_eq_true, Bool.true_eq_false, reduceCtorEq, eq_self, if_true, if_false, true_and, and_true, not_true_eq_false, not_false_eq_true, if_pos, if_neg, z_ite_not, false_or, or_false, true_or, or_true, SWs, swk_0, swk_1, q2, s_cellsOf]
      · refine callF_at (by omega) (by decide) (Nat.le_of_ble_eq_true rfl) (fun d _ => ?_)
        show Ev X d 258 0 [.ref 177, .int (nI k)] [] ( mk I J) _
        simp (disch := first | omega | assumption | exact rfl) only [U_258_0, U_258_2, U_258_4, U_258_6, U_258_7, XX, QQ, WW, KK, QX, SHs, RRs, Nat.reduceAdd, Nat.reduceMul, Nat.reduceLeDiff, Nat.reduceEqDiff, List.length_cons, List.length_nil, decide_true, decide_false, Bool.true_and, Bool.and_true, Bool.false_and, Bool.and_false, false_and, and_false, Bool.false_eq_true, Bool.true_eq_false, reduceCtorEq, eq_self, if_true, if_false, true_and, and_true, not_true_eq_false, not_false_eq_true, if_pos, if_neg, z_ite_not, false_or, or_false, true_or, or_true, SWs, swk_0, swk_1, r_isIn, q4]
    by_cases k4 : 20 ≤ k ∧ k < 26
    · obtain ⟨z1, z2⟩ := k4
      obtain ⟨hG, hB, hR⟩ := hw (k - 20) (by omega)
      have q4 := hR.2.1
      have hc : I (14 + 4 * (k - 20)) 1 = nI (pop (FW (k - 20))) := hG.2.2.2.2.1
      rw [show 370 + (k - 20) = 370 + k - 20 by omega] at q4
      refine Both_0 (nI (pop (FW (k - 20)))) h ?_ ?_
      · refine callF_at (by omega) (by decide) (Nat.le_of_ble_eq_true rfl) (fun d _ => ?_)
        show Ev X d 151 0 [.ref 0, .int (nI k)] [] ( mk I J) _
        simp (disch := first | omega | assumption | exact rfl) only [U_151_0, U_151_2, U_151_4, U_151_6, U_151_7, U_151_9, U_151_10, U_151_11, XX, QQ, WW, KK, QX, SHs, RRs, Nat.reduceAdd, Nat.reduceMul, Nat.reduceLeDiff, Nat.reduceEqDiff, List.length_cons, List.length_nil, decide_true, decide_false, Bool.true_and, Bool.and_true, Bool.false_and, Bool.and_false, false_and, and_false, Bool.false_eq_true, Bool.true_eq_false, reduceCtorEq, eq_self, if_true, if_false, true_and, and_true, not_true_eq_false, not_false_eq_true, if_pos, if_neg, z_ite_not, false_or, or_false, true_or, or_true, SWs, swk_0, swk_1, WLs, hc]
      · refine callF_at (by omega) (by decide) (Nat.le_of_ble_eq_true rfl) (fun d _ => ?_)
        show Ev X d 258 0 [.ref 177, .int (nI k)] [] ( mk I J) _
        simp (disch := first | omega | assumption | exact rfl) only [U_258_0, U_258_2, U_258_4, U_258_6, U_258_8, U_258_9, XX, QQ, WW, KK, QX, SHs, RRs, Nat.reduceAdd, Nat.reduceMul, Nat.reduceLeDiff, Nat.reduceEqDiff, List.length_cons, List.length_nil, decide_true, decide_false, Bool.true_and, Bool.and_true, Bool.false_and, Bool.and_false, false_and, and_false, Bool.false_eq_true, Bool.true_eq_false, reduceCtorEq, eq_self, if_true, if_false, true_and, and_true, not_true_eq_false, not_false_eq_true, if_pos, if_neg, z_ite_not, false_or, or_false, true_or, or_true, SWs, swk_0, swk_1, r_isIn, q4]
    by_cases k5 : 30 ≤ k ∧ k < 36
    · obtain ⟨z1, z2⟩ := k5
      obtain ⟨hG, hB, hR⟩ := hw (k - 30) (by omega)
      refine ⟨nI (fb_ct (isB (I (14 + 4 * (k - 30) + 1))) (pop (FW (k - 30)))), I, J, Igat I (FW (k - 30)) (I (14 + 4 * (k - 30) + 1)), ?_, ?_, Inv_FR h FR_gat⟩
      · refine callF_at (by omega) (by decide) (Nat.le_of_ble_eq_true rfl) (fun d _ => ?_)
        show Ev X d 151 0 [.ref 0, .int (nI k)] [] ( mk I J) _
        have bi := s_bricksIn (X := X) (d := d) (by omega) hG
        simp (disch := first | omega | assumption | exact rfl) only [U_151_0, U_151_2, U_151_4, U_151_6, U_151_7, U_151_9, U_151_10, U_151_12, U_151_13, U_151_14, XX, QQ, WW, KK, QX, SHs, RRs, Nat.reduceAdd, Nat.reduceMul, Nat.reduceLeDiff, Nat.reduceEqDiff, List.length_cons, List.length_nil, decide_true, decide_false, Bool.true_and, Bool.and_true, Bool.false_and, Bool.and_false, false_and, and_false, Bool.false_eq_true, Bool.true_eq_false, reduceCtorEq, eq_self, if_true, if_false, true_and, and_true, not_true_eq_false, not_false_eq_true, if_pos, if_neg, z_ite_not, false_or, or_false, true_or, or_true, SWs, swk_0, swk_1, WLs, bi]
      · refine callF_at (by omega) (by decide) (Nat.le_of_ble_eq_true rfl) (fun d _ => ?_)
        show Ev X d 258 0 [.ref 177, .int (nI k)] [] ( mk I J) _
        have g := r_gathers (X := X) (d := d) (J := J) (by omega) (show k - 30 < 6 by omega) hR
        simp (disch := first | omega | assumption | exact rfl) only [U_258_0, U_258_2, U_258_4, U_258_6, U_258_8, U_258_10, U_258_11, U_258_12, U_258_13, XX, QQ, WW, KK, QX, SHs, RRs, Nat.reduceAdd, Nat.reduceMul, Nat.reduceLeDiff, Nat.reduceEqDiff, List.length_cons, List.length_nil, decide_true, decide_false, Bool.true_and, Bool.and_true, Bool.false_and, Bool.and_false, false_and, and_false, Bool.false_eq_true, Bool.true_eq_false, reduceCtorEq, eq_self, if_true, if_false, true_and, and_true, not_true_eq_false, not_false_eq_true, if_pos, if_neg, z_ite_not, false_or, or_false, true_or, or_true, SWs, swk_0, swk_1, r_isIn, g]
    refine Both_0 (-1) h ?_ ?_
    · refine callF_at (by omega) (by decide) (Nat.le_of_ble_eq_true rfl) (fun d _ => ?_)
      show Ev X d 151 0 [.ref 0, .int (nI k)] [] ( mk I J) _
      rcases (by omega : k < 10 ∨ (16 ≤ k ∧ k < 20) ∨ (26 ≤ k ∧ k < 30) ∨ 36 ≤ k) with z | ⟨z1, z2⟩ | ⟨z1, z2⟩ | z
      · simp (disch := first | omega | assumption | exact rfl) only [U_151_0, U_151_2, U_151_4, U_151_6, U_151_7, U_151_9, U_151_10, U_151_12, U_151_13, U_151_15, XX, QQ, WW, KK, QX, SHs, RRs, Nat.reduceAdd, Nat.reduceMul, Nat.reduceLeDiff, Nat.reduceEqDiff, List.length_cons, List.length_nil, decide_true, decide_false, Bool.true_and, Bool.and_true, Bool.false_and, Bool.and_false, false_and, and_false, Bool.false_eq_true, Bool.true_eq_false, reduceCtorEq, eq_self, if_true, if_false, true_and, and_true, not_true_eq_false, not_false_eq_true, if_pos, if_neg, z_ite_not, false_or, or_false, true_or, or_true, SWs, swk_0, swk_1]
      · simp (disch := first | omega | assumption | exact rfl) only [U_151_0, U_151_2, U_151_4, U_151_6, U_151_7, U_151_9, U_151_10, U_151_12, U_151_13, U_151_15, XX, QQ, WW, KK, QX, SHs, RRs, Nat.reduceAdd, Nat.reduceMul, Nat.reduceLeDiff, Nat.reduceEqDiff, List.length_cons, List.length_nil, decide_true, decide_false, Bool.true_and, Bool.and_true, Bool.false_and, Bool.and_false, false_and, and_false, Bool.false_eq_true, Bool.true_eq_false, reduceCtorEq, eq_self, if_true, if_false, true_and, and_true, not_true_eq_false, not_false_eq_true, if_pos, if_neg, z_ite_not, false_or, or_false, true_or, or_true, SWs, swk_0, swk_1]
      · simp (disch := first | omega | assumption | exact rfl) only [U_151_0, U_151_2, U_151_4, U_151_6, U_151_7, U_151_9, U_151_10, U_151_12, U_151_13, U_151_15, XX, QQ, WW, KK, QX, SHs, RRs, Nat.reduceAdd, Nat.reduceMul, Nat.reduceLeDiff, Nat.reduceEqDiff, List.length_cons, List.length_nil, decide_true, decide_false, Bool.true_and, Bool.and_true, Bool.false_and, Bool.and_false, false_and, and_false, Bool.false_eq_true, Bool.true_eq_false, reduceCtorEq, eq_self, if_true, if_false, true_and, and_true, not_true_eq_false, not_false_eq_true, if_pos, if_neg, z_ite_not, false_or, or_false, true_or, or_true, SWs, swk_0, swk_1]
      · simp (disch := first | omega | assumption | exact rfl) only [U_151_0, U_151_2, U_151_4, U_151_6, U_151_7, U_151_9, U_151_10, U_151_12, U_151_13, U_151_15, XX, QQ, WW, KK, QX, SHs, RRs, Nat.reduceAdd, Nat.reduceMul, Nat.reduceLeDiff, Nat.reduceEqDiff, List.length_cons, List.length_nil, decide_true, decide_false, Bool.true_and, Bool.and_true, Bool.false_and, Bool.and_false, false_and, and_false, Bool.false_eq_true, Bool.true_eq_false, reduceCtorEq, eq_self, if_true, if_false, true_and, and_true, not_true_eq_false, not_false_eq_true, if_pos, if_neg, z_ite_not, false_or, or_false, true_or, or_true, SWs, swk_0, swk_1]
    · refine callF_at (by omega) (by decide) (Nat.le_of_ble_eq_true rfl) (fun d _ => ?_)
      show Ev X d 258 0 [.ref 177, .int (nI k)] [] ( mk I J) _
      rcases (by omega : k < 10 ∨ (16 ≤ k ∧ k < 20) ∨ (26 ≤ k ∧ k < 30) ∨ 36 ≤ k) with z | ⟨z1, z2⟩ | ⟨z1, z2⟩ | z
      · simp (disch := first | omega | assumption | exact rfl) only [U_258_0, U_258_2, U_258_4, U_258_6, U_258_8, U_258_10, U_258_12, U_258_13, XX, QQ, WW, KK, QX, SHs, RRs, Nat.reduceAdd, Nat.reduceMul, Nat.reduceLeDiff, Nat.reduceEqDiff, List.length_cons, List.length_nil, decide_true, decide_false, Bool.true_and, Bool.and_true, Bool.false_and, Bool.and_false, false_and, and_false, Bool.false_eq_true, Bool.true_eq_false, reduceCtorEq, eq_self, if_true, if_false, true_and, and_true, not_true_eq_false, not_false_eq_true, if_pos, if_neg, z_ite_not, false_or, or_false, true_or, or_true, SWs, swk_0, swk_1, r_isIn]
      · simp (disch := first | omega | assumption | exact rfl) only [U_258_0, U_258_2, U_258_4, U_258_6, U_258_8, U_258_10, U_258_12, U_258_13, XX, QQ, WW, KK, QX, SHs, RRs, Nat.reduceAdd, Nat.reduceMul, Nat.reduceLeDiff, Nat.reduceEqDiff, List.length_cons, List.length_nil, decide_true, decide_false, Bool.true_and, Bool.and_true, Bool.false_and, Bool.and_false, false_and, and_false, Bool.false_eq_true, Bool.true_eq_false, reduceCtorEq, eq_self, if_true, if_false, true_and, and_true, not_true_eq_false, not_false_eq_true, if_pos, if_neg, z_ite_not, false_or, or_false, true_or, or_true, SWs, swk_0, swk_1, r_isIn]
      · simp (disch := first | omega | assumption | exact rfl) only [U_258_0, U_258_2, U_258_4, U_258_6, U_258_8, U_258_10, U_258_12, U_258_13, XX, QQ, WW, KK, QX, SHs, RRs, Nat.reduceAdd, Nat.reduceMul, Nat.reduceLeDiff, Nat.reduceEqDiff, List.length_cons, List.length_nil, decide_true, decide_false, Bool.true_and, Bool.and_true, Bool.false_and, Bool.and_false, false_and, and_false, Bool.false_eq_true, Bool.true_eq_false, reduceCtorEq, eq_self, if_true, if_false, true_and, and_true, not_true_eq_false, not_false_eq_true, if_pos, if_neg, z_ite_not, false_or, or_false, true_or, or_true, SWs, swk_0, swk_1, r_isIn]
      · simp (disch := first | omega | assumption | exact rfl) only [U_258_0, U_258_2, U_258_4, U_258_6, U_258_8, U_258_10, U_258_12, U_258_13, XX, QQ, WW, KK, QX, SHs, RRs, Nat.reduceAdd, Nat.reduceMul, Nat.reduceLeDiff, Nat.reduceEqDiff, List.length_cons, List.length_nil, decide_true, decide_false, Bool.true_and, Bool.and_true, Bool.false_and, Bool.and_false, false_and, and_false, Bool.false_eq_true, Bool.true_eq_false, reduceCtorEq, eq_self, if_true, if_false, true_and, and_true, not_true_eq_false, not_false_eq_true, if_pos, if_neg, z_ite_not, false_or, or_false, true_or, or_true, SWs, swk_0, swk_1, r_isIn]
