/-! ===== weighing: bad and kept ===== -/
theorem and_lt24 {x y : Nat} (hx : x < 2 ^ 24) : x &&& y < 2 ^ 24 := Nat.lt_of_le_of_lt Nat.and_le_left hx
theorem nr_lt (F : Nat) (B : Nat → Int32) (b : Nat) : nr F B b < 2 ^ 24 := bs_lt _
theorem nbr_lt (F : Nat) (B : Nat → Int32) (b : Nat) : nbr F B b < 2 ^ 24 := bs_lt _
theorem ms_and {mks : Nat → Nat} {x k : Nat} (hx : x < 2 ^ 24) : x &&& ms mks k ≠ 0 ↔ ∃ c, x.testBit c = true ∧ mks c = k := by
  have e : x &&& ms mks k = bs (fun c => x.testBit c = true ∧ mks c = k) := by
    conv => lhs; rw [← bs_self hx]
    unfold ms; rw [bs_and]
  rw [e, bs_n0]
  exact ⟨fun ⟨c, _, h⟩ => ⟨c, h⟩, fun ⟨c, h⟩ => ⟨c, tb_lt hx h.1, h⟩⟩
theorem hasO_iff {al : Nat} {mks : Nat → Nat} {x y : Nat} (hx : x < 2 ^ 24) (hy : y < 2 ^ 24) (hm : ∀ k, k < 24 → mks k < 4) : hasO al mks x y ↔ (x &&& y ≠ 0 ∨ (al = 1 ∧ ∃ k, k < 4 ∧ x &&& ms mks k ≠ 0 ∧ y &&& ms mks k ≠ 0)) := by
  unfold hasO
  constructor
  · rintro (h | ⟨h, c, c', h1, h2, h3⟩)
    · exact .inl h
    · exact .inr ⟨h, mks c, hm c (tb_lt hx h1), (ms_and hx).mpr ⟨c, h1, rfl⟩, (ms_and hy).mpr ⟨c', h2, h3.symm⟩⟩
  · rintro (h | ⟨h, k, h0, h1, h2⟩)
    · exact .inl h
    · obtain ⟨c, c1, c2⟩ := (ms_and hx).mp h1
      obtain ⟨c', c3, c4⟩ := (ms_and hy).mp h2
      exact .inr ⟨h, c, c', c1, c3, c2.trans c4.symm⟩
theorem s_isNear {X : Nat × (Nat → Int32)} {d : Nat} {I : Nat → Nat → Int32} {J : Nat → Nat → Int64} {N F : Nat} {B : Nat → Int32} {al x y : Nat} {mks : Nat → Nat} (hd : 1 ≤ d) (hN : NA N) (hL : LN I N F B al mks) (hm4 : ∀ k, k < 24 → mks k < 4) (hx : x < 2 ^ 24) (hy : y < 2 ^ 24) :
    callF X d 40 [.ref N, .int (nI x), .int (nI y)] (mk I J) = some (some (.int (bI (cd (hasO al mks x y)))), mk I J) := by
  obtain ⟨n1, n2, n3, n4, n5⟩ := id hN
  obtain ⟨l1, l2, l3⟩ := hL
  refine callF_at (by omega) (by decide) (Nat.le_of_ble_eq_true rfl) (fun d _ => ?_)
  show Ev X d 40 0 [.ref N, .int (nI x), .int (nI y), .retAddr 0] [] (mk I J) _
  have hxy := and_lt24 (y := y) hx
  have ci : cd (hasO al mks x y) = cd (x &&& y ≠ 0 ∨ (al = 1 ∧ ∃ k, k < 4 ∧ x &&& ms mks k ≠ 0 ∧ y &&& ms mks k ≠ 0)) := by
    rw [Bool.eq_iff_iff, cd_iff, cd_iff]; exact hasO_iff hx hy hm4
  by_cases h : x &&& y = 0
  · simp (disch := first | omega | assumption | exact rfl) only [U_40_0, U_40_2, XX, QQ, WW, KK, QX, SHs, RRs, Nat.reduceAdd, Nat.reduceMul, Nat.reduceLeDiff, Nat.reduceEqDiff, List.length_cons, List.length_nil, decide_true, decide_false, Bool.true_and, Bool.and_true, Bool.false_and, Bool.and_false, false_and, and_false, Bool.false_eq_true, Bool.true_eq_false, reduceCtorEq, eq_self, if_true, if_false, true_and, and_true, not_true_eq_false, not_false_eq_true, if_pos, if_neg, z_ite_not, fa_and]
    refine lp0 (n := 4) (P := fun k => (∀ k', k' < k → ¬ (al = 1 ∧ x &&& ms mks k' ≠ 0 ∧ y &&& ms mks k' ≠ 0)) → Ev X d 40 3 [.ref N, .int (nI x), .int (nI y), .int (nI k)] [] (mk I J) (some (.int (bI (cd (hasO al mks x y)))), mk I J)) ?_ ?_ (fun k' h => by omega)
    · intro hk
      rw [U_40_3]
      have : cd (hasO al mks x y) = false := by
        rw [ci, cd_f]
        rintro (z | ⟨z, k, z1, z2, z3⟩)
        · exact z h
        · exact hk k z1 ⟨z, z2, z3⟩
      rw [this]
      simp (disch := first | omega | assumption | exact rfl) only [U_40_9, XX, QQ, WW, KK, QX, SHs, RRs, Nat.reduceAdd, Nat.reduceMul, Nat.reduceLeDiff, Nat.reduceEqDiff, List.length_cons, List.length_nil, decide_true, decide_false, Bool.true_and, Bool.and_true, Bool.false_and, Bool.and_false, false_and, and_false, Bool.false_eq_true, Bool.true_eq_false, reduceCtorEq, eq_self, if_true, if_false, true_and, and_true, not_true_eq_false, not_false_eq_true, if_pos, if_neg, z_ite_not]
    · intro k hk ih hp
      rw [U_40_3]
      have l := l3 k hk
      have a1 := and_lt24 (y := ms mks k) hx
      have a2 := and_lt24 (y := ms mks k) hy
      by_cases z : al = 1 ∧ x &&& ms mks k ≠ 0 ∧ y &&& ms mks k ≠ 0
      · have : cd (hasO al mks x y) = true := by
          rw [ci, cd_iff]; exact .inr ⟨z.1, k, hk, z.2⟩
        rw [this]
        obtain ⟨z1, z2, z3⟩ := z
        simp (disch := first | omega | assumption | exact rfl) only [U_40_4, U_40_5, U_40_6, U_40_7, XX, QQ, WW, KK, QX, SHs, RRs, Nat.reduceAdd, Nat.reduceMul, Nat.reduceLeDiff, Nat.reduceEqDiff, List.length_cons, List.length_nil, decide_true, decide_false, Bool.true_and, Bool.and_true, Bool.false_and, Bool.and_false, false_and, and_false, Bool.false_eq_true, Bool.true_eq_false, reduceCtorEq, eq_self, if_true, if_false, true_and, and_true, not_true_eq_false, not_false_eq_true, if_pos, if_neg, z_ite_not, n1, n3, n5, l2, l, fa_and]
      · have q := ih (fun k' h' => by
          by_cases e : k' = k
          · rw [e]; exact z
          · exact hp k' (by omega))
        by_cases z1 : al = 1
        · by_cases z2 : x &&& ms mks k = 0
          · simp (disch := first | omega | assumption | exact rfl) only [U_40_4, U_40_5, U_40_6, U_40_7, U_40_8, XX, QQ, WW, KK, QX, SHs, RRs, Nat.reduceAdd, Nat.reduceMul, Nat.reduceLeDiff, Nat.reduceEqDiff, List.length_cons, List.length_nil, decide_true, decide_false, Bool.true_and, Bool.and_true, Bool.false_and, Bool.and_false, false_and, and_false, Bool.false_eq_true, Bool.true_eq_false, reduceCtorEq, eq_self, if_true, if_false, true_and, and_true, not_true_eq_false, not_false_eq_true, if_pos, if_neg, z_ite_not, n1, n3, n5, l2, l, fa_and]
            exact q
          · have z3 : y &&& ms mks k = 0 := Classical.byContradiction (fun z3 => z ⟨z1, z2, z3⟩)
            simp (disch := first | omega | assumption | exact rfl) only [U_40_4, U_40_5, U_40_6, U_40_7, U_40_8, XX, QQ, WW, KK, QX, SHs, RRs, Nat.reduceAdd, Nat.reduceMul, Nat.reduceLeDiff, Nat.reduceEqDiff, List.length_cons, List.length_nil, decide_true, decide_false, Bool.true_and, Bool.and_true, Bool.false_and, Bool.and_false, false_and, and_false, Bool.false_eq_true, Bool.true_eq_false, reduceCtorEq, eq_self, if_true, if_false, true_and, and_true, not_true_eq_false, not_false_eq_true, if_pos, if_neg, z_ite_not, n1, n3, n5, l2, l, fa_and]
            exact q
        · have : cd (hasO al mks x y) = false := by
            rw [ci, cd_f]
            rintro (z | ⟨z, k, _⟩)
            · exact z h
            · exact z1 z
          rw [this]
          simp (disch := first | omega | assumption | exact rfl) only [U_40_4, U_40_9, XX, QQ, WW, KK, QX, SHs, RRs, Nat.reduceAdd, Nat.reduceMul, Nat.reduceLeDiff, Nat.reduceEqDiff, List.length_cons, List.length_nil, decide_true, decide_false, Bool.true_and, Bool.and_true, Bool.false_and, Bool.and_false, false_and, and_false, Bool.false_eq_true, Bool.true_eq_false, reduceCtorEq, eq_self, if_true, if_false, true_and, and_true, not_true_eq_false, not_false_eq_true, if_pos, if_neg, z_ite_not, n1, l2]
  · have : cd (hasO al mks x y) = true := by
      rw [ci, cd_iff]; exact .inl h
    rw [this]
    simp (disch := first | omega | assumption | exact rfl) only [U_40_0, U_40_1, XX, QQ, WW, KK, QX, SHs, RRs, Nat.reduceAdd, Nat.reduceMul, Nat.reduceLeDiff, Nat.reduceEqDiff, List.length_cons, List.length_nil, decide_true, decide_false, Bool.true_and, Bool.and_true, Bool.false_and, Bool.and_false, false_and, and_false, Bool.false_eq_true, Bool.true_eq_false, reduceCtorEq, eq_self, if_true, if_false, true_and, and_true, not_true_eq_false, not_false_eq_true, if_pos, if_neg, z_ite_not, fa_and]
/-- sums over cells as sums over bricks -/
theorem reidx {B : Nat → Int32} (f : Nat → Nat) : ∀ n, (∀ i, i < n → B i = -1 ∨ ∃ b, b < 24 ∧ B i = nI b) → (∀ i j, i < n → j < n → B i = B j → B i ≠ -1 → i = j) → fb_sm (fun i => if B i = -1 then 0 else f (B i).toNatClampNeg) n = fb_sm (fun b => if cd (∃ i, i < n ∧ B i = nI b) = true then f b else 0) 24
  | 0, _, _ => by
    rw [fb_sm, fb_sm_cong (g := fun _ => 0) (fun k _ => if_neg (by rw [cd_iff]; rintro ⟨i, h, _⟩; omega)), fb_sm_const]
  | n + 1, h1, h2 => by
    rw [fb_sm_succ, reidx f n (fun i hi => h1 i (by omega)) (fun i j hi hj => h2 i j (by omega) (by omega))]
    rcases h1 n (by omega) with z | ⟨b, hb, z⟩
    · rw [if_pos z, Nat.add_zero]
      refine fb_sm_cong (fun k hk => ?_)
      have : cd (∃ i, i < n ∧ B i = nI k) = cd (∃ i, i < n + 1 ∧ B i = nI k) := by
        rw [Bool.eq_iff_iff, cd_iff, cd_iff]
        constructor
        · rintro ⟨i, a, b⟩; exact ⟨i, by omega, b⟩
        · rintro ⟨i, a, b⟩
          by_cases e : i = n
          · subst e; rw [z] at b; exact absurd b.symm (nI_ne (by omega))
          · exact ⟨i, by omega, b⟩
      rw [this]
    · rw [if_neg (by rw [z]; exact nI_ne (by omega)), z, nI_clamp (by omega)]
      have hnot : ¬ ∃ i, i < n ∧ B i = nI b := by
        rintro ⟨i, a, e⟩
        have := h2 i n (by omega) (by omega) (e.trans z.symm) (by rw [e]; exact nI_ne (by omega))
        omega
      have u := fb_sm_upd (fun b => if cd (∃ i, i < n ∧ B i = nI b) = true then f b else 0) (f b) hb
      rw [if_neg (by rw [cd_iff]; exact hnot), Nat.add_zero] at u
      rw [← u]
      refine fb_sm_cong (fun k hk => ?_)
      by_cases e : k = b
      · subst e; rw [if_pos rfl, if_pos (by rw [cd_iff]; exact ⟨n, by omega, z⟩)]
      · rw [if_neg e]
        have : cd (∃ i, i < n ∧ B i = nI k) = cd (∃ i, i < n + 1 ∧ B i = nI k) := by
          rw [Bool.eq_iff_iff, cd_iff, cd_iff]
          constructor
          · rintro ⟨i, a, b⟩; exact ⟨i, by omega, b⟩
          · rintro ⟨i, a, b'⟩
            by_cases e' : i = n
            · subst e'; rw [z] at b'; exact absurd (nI_inj (by omega) (by omega) b').symm e
            · exact ⟨i, by omega, b'⟩
        rw [this]
noncomputable def badS (F1 : Nat) (B1 : Nat → Int32) (F2 : Nat) (B2 : Nat → Int32) (al : Nat) (mks : Nat → Nat) : Nat := bs (fun b => (∃ i, i < pop F2 ∧ B2 i = nI b) ∧ ¬ hasO al mks (nr F2 B2 b) (nr F1 B1 b))
noncomputable def twi (F1 : Nat) (B1 : Nat → Int32) (F2 : Nat) (B2 : Nat → Int32) : Nat := fb_sm (fun b => pop (nr F2 B2 b &&& nr F1 B1 b)) 24
theorem pop_le (x : Nat) : pop x ≤ 64 := fb_ct_le _ 64
noncomputable def twP (F1 : Nat) (B1 : Nat → Int32) (F2 : Nat) (B2 : Nat → Int32) (i : Nat) : Nat := fb_sm (fun i' => if B2 i' = -1 then 0 else pop (nr F2 B2 (B2 i').toNatClampNeg &&& nr F1 B1 (B2 i').toNatClampNeg)) i
theorem pop_0 : pop 0 = 0 := by decide +kernel
theorem twP_all {F1 F2 : Nat} {B1 B2 : Nat → Int32} (hB : WB B2 (pop F2)) : twP F1 B1 F2 B2 (pop F2) = twi F1 B1 F2 B2 := by
  unfold twP twi
  rw [reidx (fun b => pop (nr F2 B2 b &&& nr F1 B1 b)) (pop F2) hB.1 hB.2.1]
  refine fb_sm_cong (fun b hb => ?_)
  by_cases h : ∃ i, i < pop F2 ∧ B2 i = nI b
  · rw [if_pos (cd_iff.mpr h)]
  · rw [if_neg (fun z => h (cd_iff.mp z)), nr_no (fun i hi e => h ⟨i, hi, e⟩), Nat.zero_and, pop_0]
theorem twP_le {F1 F2 : Nat} {B1 B2 : Nat → Int32} (i : Nat) : twP F1 B1 F2 B2 i ≤ i * 64 := fb_sm_bound (fun k _ => by
  by_cases h : B2 k = -1
  · rw [if_pos h]; omega
  · rw [if_neg h]; exact pop_le _)
theorem twi_le {F1 F2 : Nat} {B1 B2 : Nat → Int32} : twi F1 B1 F2 B2 ≤ 24 * 64 := fb_sm_bound (fun k _ => pop_le _)
noncomputable def bdP (F1 : Nat) (B1 : Nat → Int32) (F2 : Nat) (B2 : Nat → Int32) (al : Nat) (mks : Nat → Nat) (i : Nat) : Nat := bs (fun b => (∃ i', i' < i ∧ B2 i' = nI b) ∧ ¬ hasO al mks (nr F2 B2 b) (nr F1 B1 b))
noncomputable def Iwgh (I : Nat → Nat → Int32) (N F1 : Nat) (B1 : Nat → Int32) (F2 : Nat) (B2 : Nat → Int32) (al : Nat) (mks : Nat → Nat) : Nat → Nat → Int32 := va_up I N (va_up (va_up (va_up (I N) 3 (nI (badS F1 B1 F2 B2 al mks))) 4 (nI (pop (badS F1 B1 F2 B2 al mks)))) 5 (nI (twi F1 B1 F2 B2 / 2)))
theorem s_weigh {X : Nat × (Nat → Int32)} {d : Nat} {I : Nat → Nat → Int32} {J : Nat → Nat → Int64} {N W F1 F2 : Nat} {B1 : Nat → Int32} {al : Nat} {mks : Nat → Nat} (hd : 2 ≤ d) (hN : NA N) (hL : LN I N F1 B1 al mks) (hW : WG (mk I J) W F2) (hNW : W + 3 < N ∨ N + 2 < W) (hB : WB (I (W + 1)) (pop F2)) (hm4 : ∀ k, k < 24 → mks k < 4) :
    callF X d 38 [.ref N, .ref W] (mk I J) = some (none, mk (Iwgh I N F1 B1 F2 (I (W + 1)) al mks) J) := by
  obtain ⟨n1, n2, n3, n4, n5⟩ := id hN
  obtain ⟨l1, l2, l3⟩ := id hL
  obtain ⟨⟨h1, h2, h3', h4, h5, h6, h7⟩, hF, h24, hj, hc, hp, ht⟩ := id hW
  rw [k_sh] at h1 h5 h6 h7
  rw [k_R] at h2 h3' h4
  rw [k_I] at hc
  refine callF_at (by omega) (by decide) (Nat.le_of_ble_eq_true rfl) (fun d _ => ?_)
  show Ev X d 38 0 [.ref N, .ref W, .retAddr 0, .retAddr 0, .retAddr 0, .retAddr 0] [] (mk I J) _
  simp (disch := first | omega | assumption | exact rfl) only [U_38_0, XX, QQ, WW, KK, QX, SHs, RRs, Nat.reduceAdd, Nat.reduceMul, Nat.reduceLeDiff, Nat.reduceEqDiff, List.length_cons, List.length_nil, decide_true, decide_false, Bool.true_and, Bool.and_true, Bool.false_and, Bool.and_false, false_and, and_false, Bool.false_eq_true, Bool.true_eq_false, reduceCtorEq, eq_self, if_true, if_false, true_and, and_true, not_true_eq_false, not_false_eq_true, if_pos, if_neg, z_ite_not, n1]
  obtain ⟨B, hBe⟩ : ∃ B, B = I (W + 1) := ⟨_, rfl⟩
  rw [← hBe] at hB ⊢
  refine lpI (n := pop F2) (P := fun i => ∀ u4 u5 : Value, Ev X d 38 1 [.ref N, .ref W, .int (nI (twP F1 B1 F2 B i)), .int (nI i), u4, u5] [] (mk (va_up I N (va_up (I N) 3 (nI (bdP F1 B1 F2 B al mks i)))) J) (none, mk (Iwgh I N F1 B1 F2 B al mks) J)) ?_ ?_ (fun L => by
    have e : bdP F1 B1 F2 B al mks 0 = 0 := bs_0 (fun b _ => by rintro ⟨⟨i, h, _⟩, _⟩; omega)
    have e' : twP F1 B1 F2 B 0 = 0 := rfl
    rw [e, e'] at L; exact L _ _)
  · intro u4 u5
    rw [U_38_1]
    have e : bdP F1 B1 F2 B al mks (pop F2) = badS F1 B1 F2 B al mks := rfl
    have b1 : badS F1 B1 F2 B al mks < 2 ^ 24 := bs_lt _
    have b2 := twi_le (F1 := F1) (B1 := B1) (F2 := F2) (B2 := B)
    have b3 : (nI 2 : Int32) ≠ 0 := by decide +kernel
    rw [e, twP_all hB]
    simp (disch := first | omega | assumption | exact rfl) only [U_38_8, XX, QQ, WW, KK, QX, SHs, RRs, Nat.reduceAdd, Nat.reduceMul, Nat.reduceLeDiff, Nat.reduceEqDiff, List.length_cons, List.length_nil, decide_true, decide_false, Bool.true_and, Bool.and_true, Bool.false_and, Bool.and_false, false_and, and_false, Bool.false_eq_true, Bool.true_eq_false, reduceCtorEq, eq_self, if_true, if_false, true_and, and_true, not_true_eq_false, not_false_eq_true, if_pos, if_neg, z_ite_not, n1, h1, hc, s_bcI, q_div, b3]
    rfl
  · intro i hi ih u4 u5
    rw [U_38_1]
    rcases hB.1 i hi with z | ⟨b, hb, z⟩
    · have e : bdP F1 B1 F2 B al mks (i + 1) = bdP F1 B1 F2 B al mks i := bs_ext (fun b hb => by
        constructor
        · rintro ⟨⟨i', y1, y2⟩, q⟩
          by_cases e : i' = i
          · subst e; rw [z] at y2; exact absurd y2.symm (nI_ne (by omega))
          · exact ⟨⟨i', by omega, y2⟩, q⟩
        · rintro ⟨⟨i', y1, y2⟩, q⟩; exact ⟨⟨i', by omega, y2⟩, q⟩)
      have e2 : twP F1 B1 F2 B (i + 1) = twP F1 B1 F2 B i := by unfold twP; rw [fb_sm_succ, if_pos z, Nat.add_zero]
      rw [e, e2] at ih
      rw [hBe] at z
      simp (disch := first | omega | assumption | exact rfl) only [U_38_2, U_38_7, XX, QQ, WW, KK, QX, SHs, RRs, Nat.reduceAdd, Nat.reduceMul, Nat.reduceLeDiff, Nat.reduceEqDiff, List.length_cons, List.length_nil, decide_true, decide_false, Bool.true_and, Bool.and_true, Bool.false_and, Bool.and_false, false_and, and_false, Bool.false_eq_true, Bool.true_eq_false, reduceCtorEq, eq_self, if_true, if_false, true_and, and_true, not_true_eq_false, not_false_eq_true, if_pos, if_neg, z_ite_not, n1, h1, h2, h5, hc, s_isOf, z]
      exact ih _ _
    · have e2 : twP F1 B1 F2 B (i + 1) = twP F1 B1 F2 B i + pop (nbr F2 B i &&& nr F1 B1 b) := by
        unfold twP; rw [fb_sm_succ, if_neg (by rw [z]; exact nI_ne (by omega)), z, nI_clamp (by omega), nr_at hB hi hb z]
      have hW1 : WG (mk (va_up I N (va_up (I N) 3 (nI (bdP F1 B1 F2 B al mks i)))) J) W F2 := WG_fr hW (fun a h1 h2 => vu_ne (by omega)) rfl
      have hB1 : va_up I N (va_up (I N) 3 (nI (bdP F1 B1 F2 B al mks i))) (W + 1) = B := by rw [vu_ne (by omega), hBe]
      have sb := s_besideOf (X := X) (d := d) (i := i) (by omega) hW1 (by show WB (va_up I _ _ (W + 1)) _; rw [hB1]; exact hB) hi
      rw [k_I, hB1] at sb
      have hL1 : LN (va_up I N (va_up (I N) 3 (nI (bdP F1 B1 F2 B al mks i)))) N F1 B1 al mks := by
        refine ⟨fun b hb => ?_, ?_, fun k hk => ?_⟩
        · rw [vu_ne (by omega)]; exact l1 b hb
        · rw [vu_eq, vu_ne (by omega)]; exact l2
        · rw [vu_ne (by omega)]; exact l3 k hk
      have sn := s_isNear (X := X) (d := d) (J := J) (by omega) hN hL1 hm4 (nbr_lt F2 B i) (nr_lt F1 B1 b)
      have lb := l1 b hb
      have a1 := and_lt24 (y := nr F1 B1 b) (nbr_lt F2 B i)
      have a2 := twP_le (F1 := F1) (B1 := B1) (F2 := F2) (B2 := B) i
      have a3 := pop_le (nbr F2 B i &&& nr F1 B1 b)
      by_cases q : hasO al mks (nbr F2 B i) (nr F1 B1 b)
      · have cq : cd (hasO al mks (nbr F2 B i) (nr F1 B1 b)) = true := cd_iff.mpr q
        have e : bdP F1 B1 F2 B al mks (i + 1) = bdP F1 B1 F2 B al mks i ||| 0 := by
          rw [Nat.or_zero]
          exact bs_ext (fun b' hb' => by
            constructor
            · rintro ⟨⟨i', y1, y2⟩, q'⟩
              by_cases e : i' = i
              · subst e
                have : b = b' := nI_inj (by omega) (by omega) (z.symm.trans y2)
                subst this
                rw [nr_at hB hi hb z] at q'; exact absurd q q'
              · exact ⟨⟨i', by omega, y2⟩, q'⟩
            · rintro ⟨⟨i', y1, y2⟩, q⟩; exact ⟨⟨i', by omega, y2⟩, q⟩)
        rw [e, e2] at ih
        rw [hBe] at z
        simp (disch := first | omega | assumption | exact rfl) only [U_38_2, U_38_3, U_38_4, U_38_5, U_38_6, U_38_7, XX, QQ, WW, KK, QX, SHs, RRs, Nat.reduceAdd, Nat.reduceMul, Nat.reduceLeDiff, Nat.reduceEqDiff, List.length_cons, List.length_nil, decide_true, decide_false, Bool.true_and, Bool.and_true, Bool.false_and, Bool.and_false, false_and, and_false, Bool.false_eq_true, Bool.true_eq_false, reduceCtorEq, eq_self, if_true, if_false, true_and, and_true, not_true_eq_false, not_false_eq_true, if_pos, if_neg, z_ite_not, n1, n2, n4, h1, h2, h5, hc, s_isOf, z, sb, fa_and, fa_or, lb, s_bcI, sn, cq]
        exact ih _ _
      · have cq : cd (hasO al mks (nbr F2 B i) (nr F1 B1 b)) = false := cd_f.mpr q
        have e : bdP F1 B1 F2 B al mks (i + 1) = bdP F1 B1 F2 B al mks i ||| 2 ^ b := by
          unfold bdP
          rw [bs_ins hb]
          exact bs_ext (fun b' hb' => by
            constructor
            · rintro ⟨⟨i', y1, y2⟩, q'⟩
              by_cases e : i' = i
              · subst e
                exact .inr (nI_inj (by omega) (by omega) (z.symm.trans y2)).symm
              · exact .inl ⟨⟨i', by omega, y2⟩, q'⟩
            · rintro (⟨⟨i', y1, y2⟩, q⟩ | rfl)
              · exact ⟨⟨i', by omega, y2⟩, q⟩
              · refine ⟨⟨i, by omega, z⟩, ?_⟩
                rw [nr_at hB hi hb z]; exact q)
        rw [e, e2] at ih
        rw [hBe] at z
        simp (disch := first | omega | assumption | exact rfl) only [U_38_2, U_38_3, U_38_4, U_38_5, U_38_6, U_38_7, XX, QQ, WW, KK, QX, SHs, RRs, Nat.reduceAdd, Nat.reduceMul, Nat.reduceLeDiff, Nat.reduceEqDiff, List.length_cons, List.length_nil, decide_true, decide_false, Bool.true_and, Bool.and_true, Bool.false_and, Bool.and_false, false_and, and_false, Bool.false_eq_true, Bool.true_eq_false, reduceCtorEq, eq_self, if_true, if_false, true_and, and_true, not_true_eq_false, not_false_eq_true, if_pos, if_neg, z_ite_not, n1, n2, n4, h1, h2, h5, hc, s_isOf, z, sb, fa_and, fa_or, lb, s_bcI, sn, cq]
        exact ih _ _
/-- ints of either sign -/
def iI (z : Int) : Int32 := Int32.ofInt z
theorem iI_n (n : Nat) : nI n = iI n := by
  show Int32.ofNat n = Int32.ofInt n
  rw [Int32.ofInt_eq_ofNat]
theorem iI_sub (a b : Int) : iI a - iI b = iI (a - b) := by
  show Int32.ofInt a - Int32.ofInt b = _
  rw [← Int32.ofInt_sub]; rfl
theorem iI_add (a b : Int) : iI a + iI b = iI (a + b) := by
  show Int32.ofInt a + Int32.ofInt b = _
  rw [← Int32.ofInt_add]; rfl
theorem iI_lt0 {z : Int} (h1 : -2147483648 ≤ z) (h2 : z < 2147483648) : (iI z < 0) = (z < 0) := propext (by
  rw [Int32.lt_iff_toInt_lt]
  show (Int32.ofInt z).toInt < 0 ↔ _
  rw [fb_ofI h1 h2])
noncomputable def wgt (F1 : Nat) (B1 : Nat → Int32) (F2 : Nat) (B2 : Nat → Int32) (al : Nat) (mks : Nat → Nat) (i : Nat) : Int := if B2 i = -1 then 0 else (if cd (hasO al mks (nbr F2 B2 i) (nr F1 B1 (B2 i).toNatClampNeg)) = true then 0 else 1024) - (pop (nbr F2 B2 i &&& nr F1 B1 (B2 i).toNatClampNeg) : Int)
theorem s_weightOf {X : Nat × (Nat → Int32)} {d : Nat} {I : Nat → Nat → Int32} {J : Nat → Nat → Int64} {N W F1 F2 i : Nat} {B1 : Nat → Int32} {al : Nat} {mks : Nat → Nat} (hd : 2 ≤ d) (hN : NA N) (hL : LN I N F1 B1 al mks) (hW : WG (mk I J) W F2) (hB : WB (I (W + 1)) (pop F2)) (hm4 : ∀ k, k < 24 → mks k < 4) (hi : i < pop F2) :
    callF X d 39 [.ref N, .ref W, .int (nI i)] (mk I J) = some (some (.int (iI (wgt F1 B1 F2 (I (W + 1)) al mks i))), mk I J) := by
  obtain ⟨n1, n2, n3, n4, n5⟩ := id hN
  obtain ⟨l1, l2, l3⟩ := id hL
  obtain ⟨⟨h1, h2, h3', h4, h5, h6, h7⟩, hF, h24, hj, hc, hp, ht⟩ := id hW
  rw [k_sh] at h1 h5 h6 h7
  rw [k_R] at h2 h3' h4
  rw [k_I] at hc
  refine callF_at (by omega) (by decide) (Nat.le_of_ble_eq_true rfl) (fun d _ => ?_)
  show Ev X d 39 0 [.ref N, .ref W, .int (nI i), .retAddr 0, .retAddr 0, .retAddr 0] [] (mk I J) _
  have s1 := s_brickIn (X := X) (d := d) (v := nI i) (by omega) hW
  rw [k_I, brI_in hi (by omega)] at s1
  rcases hB.1 i hi with z | ⟨b, hb, z⟩
  · rw [z] at s1
    have : wgt F1 B1 F2 (I (W + 1)) al mks i = 0 := if_pos z
    rw [this, ← Int.natCast_zero, ← iI_n]
    simp (disch := first | omega | assumption | exact rfl) only [U_39_0, U_39_1, XX, QQ, WW, KK, QX, SHs, RRs, Nat.reduceAdd, Nat.reduceMul, Nat.reduceLeDiff, Nat.reduceEqDiff, List.length_cons, List.length_nil, decide_true, decide_false, Bool.true_and, Bool.and_true, Bool.false_and, Bool.and_false, false_and, and_false, Bool.false_eq_true, Bool.true_eq_false, reduceCtorEq, eq_self, if_true, if_false, true_and, and_true, not_true_eq_false, not_false_eq_true, if_pos, if_neg, z_ite_not, h1, s1, s_isOf]
  · rw [z] at s1
    have sb := s_besideOf (X := X) (d := d) (i := i) (by omega) hW hB hi
    rw [k_I] at sb
    have sn := s_isNear (X := X) (d := d) (J := J) (by omega) hN hL hm4 (nbr_lt F2 (I (W + 1)) i) (nr_lt F1 B1 b)
    have lb := l1 b hb
    have a1 := and_lt24 (y := nr F1 B1 b) (nbr_lt F2 (I (W + 1)) i)
    by_cases q : hasO al mks (nbr F2 (I (W + 1)) i) (nr F1 B1 b)
    · have cq := cd_iff.mpr q
      have e : wgt F1 B1 F2 (I (W + 1)) al mks i = (0 : Nat) - (pop (nbr F2 (I (W + 1)) i &&& nr F1 B1 b) : Int) := by
        unfold wgt; rw [if_neg (by rw [z]; exact nI_ne (by omega)), z, nI_clamp (by omega), if_pos cq]; rfl
      rw [e, ← iI_sub, ← iI_n, ← iI_n]
      simp (disch := first | omega | assumption | exact rfl) only [U_39_0, U_39_2, U_39_3, U_39_4, U_39_5, XX, QQ, WW, KK, QX, SHs, RRs, Nat.reduceAdd, Nat.reduceMul, Nat.reduceLeDiff, Nat.reduceEqDiff, List.length_cons, List.length_nil, decide_true, decide_false, Bool.true_and, Bool.and_true, Bool.false_and, Bool.and_false, false_and, and_false, Bool.false_eq_true, Bool.true_eq_false, reduceCtorEq, eq_self, if_true, if_false, true_and, and_true, not_true_eq_false, not_false_eq_true, if_pos, if_neg, z_ite_not, n1, n2, n4, h1, s1, s_isOf, sb, sn, lb, cq, fa_and, s_bcI]
    · have cq := cd_f.mpr q
      have e : wgt F1 B1 F2 (I (W + 1)) al mks i = (1024 : Nat) - (pop (nbr F2 (I (W + 1)) i &&& nr F1 B1 b) : Int) := by
        unfold wgt; rw [if_neg (by rw [z]; exact nI_ne (by omega)), z, nI_clamp (by omega), if_neg (by rw [cq]; simp)]; rfl
      have a3 := pop_le (nbr F2 (I (W + 1)) i &&& nr F1 B1 b)
      rw [e, ← iI_sub, ← iI_n, ← iI_n]
      simp (disch := first | omega | assumption | exact rfl) only [U_39_0, U_39_2, U_39_3, U_39_4, U_39_5, XX, QQ, WW, KK, QX, SHs, RRs, Nat.reduceAdd, Nat.reduceMul, Nat.reduceLeDiff, Nat.reduceEqDiff, List.length_cons, List.length_nil, decide_true, decide_false, Bool.true_and, Bool.and_true, Bool.false_and, Bool.and_false, false_and, and_false, Bool.false_eq_true, Bool.true_eq_false, reduceCtorEq, eq_self, if_true, if_false, true_and, and_true, not_true_eq_false, not_false_eq_true, if_pos, if_neg, z_ite_not, n1, n2, n4, h1, s1, s_isOf, sb, sn, lb, cq, fa_and, s_bcI]
