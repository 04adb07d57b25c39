/-! ===== a wall of the world changes: wall, lay, fill ===== -/
def inA (a i : Nat) : Prop := i = 370 + a ∨ (380 + 24 * a ≤ i ∧ i < 404 + 24 * a) ∨ (524 + 24 * a ≤ i ∧ i < 548 + 24 * a) ∨ (668 + 24 * a ≤ i ∧ i < 692 + 24 * a)
theorem Inv_setW {I I' : Nat → Nat → Int32} {J J' : Nat → Nat → Int64} {a : Nat} (ha : a < 6) (h : Inv I J) (hC : ∀ k, k < 137 → k ≠ 1 → (k < 14 + 4 * a ∨ 14 + 4 * a + 3 < k) → I' k = I k) (h1 : ∀ i, i ≠ 0 → I' 1 i = I 1 i) (h10 : I' 1 0 = I' 178 0) (hJ : ∀ k, k < 137 → k ≠ 14 + 4 * a → J' k = J k) (hr : ∀ i, i ≠ 0 → ¬ inA a i → I' 178 i = I 178 i) (h9 : I' 179 = I 179) (h2 : I' 182 = I 182) (h7 : ∀ k, k < 22 → I' 177 k = I 177 k) (hW : ∃ F, WG (mk I' J') (14 + 4 * a) F ∧ WB (I' (14 + 4 * a + 1)) (pop F) ∧ RWl (I' 178) a F (I' (14 + 4 * a + 1))) : Inv I' J' := by
  obtain ⟨⟨⟨c0, al, be, yr, c1⟩, c2, c3, ⟨FW, c4⟩, c5, c6, c7⟩, ⟨pb, p1, p2, p3⟩, ⟨tl, t1, t2, t3, t4⟩, g1, g2⟩ := h
  have hr' : ∀ i, i ≠ 0 → (i < 370 ∨ 812 ≤ i) → I' 178 i = I 178 i := fun i h1 h2 => hr i h1 (by unfold inA; omega)
  obtain ⟨F, hG, hB, hR⟩ := hW
  refine ⟨⟨⟨h10, al, be, yr, ?_⟩, ?_, ?_, ⟨fun a' => if a' = a then F else FW a', fun a' ha' => ?_⟩, ?_, ?_, ?_⟩, ⟨pb, ?_, ?_, fun z => ?_⟩, ⟨tl, t1, ?_, ?_, fun i hi => ?_⟩, ?_, ?_⟩
  · rw [Nat.add_zero] at c1 ⊢
    rw [h1 1 (by decide), h1 2 (by decide), h1 3 (by decide), hr' 1 (by decide) (by decide), hr' 2 (by decide) (by decide), hr' 3 (by decide) (by decide)]
    exact c1
  · obtain ⟨mks, brk, q⟩ := c2
    refine ⟨mks, brk, fun k hk => ?_⟩
    rw [hC (2 + 0) (by omega) (by omega) (by omega), hC (3 + 0) (by omega) (by omega) (by omega), hr' (10 + k) (by omega) (by omega), hr' (40 + k) (by omega) (by omega)]
    exact q k hk
  · obtain ⟨FS, q⟩ := c3
    refine ⟨FS, fun s hs => ?_⟩
    obtain ⟨q1, q2, q3, q4, q5⟩ := q s hs
    refine ⟨q1, by rw [hJ _ (by omega) (by omega)]; exact q2, q3, ?_, fun i hi => ?_⟩
    · rw [hr' _ (by omega) (by omega)]; exact q4
    · rw [hr' _ (by omega) (by omega), hr' _ (by omega) (by omega)]; exact q5 i hi
  · by_cases e : a' = a
    · subst e
      simp only [if_true]
      exact ⟨hG, hB, hR⟩
    · simp only [if_neg e]
      obtain ⟨w1, w2, w3⟩ := c4 a' ha'
      have ee : ∀ k, k ≤ 3 → I' (14 + 4 * a' + 0 + k) = I (14 + 4 * a' + 0 + k) := fun k hk => hC _ (by omega) (by omega) (by omega)
      refine ⟨WG_fr w1 (fun k k1 k2 => hC k (by omega) (by omega) (by omega)) (hJ _ (by omega) (by omega)), ?_, ?_⟩
      · rw [ee 1 (by decide)]; exact w2
      · rw [ee 1 (by decide)]
        obtain ⟨y1, y2, y3, y4⟩ := w3
        refine ⟨y1, ?_, fun i hi => ?_, fun i hi => ?_⟩
        · rw [hr _ (by omega) (by unfold inA; omega)]; exact y2
        · rw [hr _ (by omega) (by unfold inA; omega), hr _ (by omega) (by unfold inA; omega)]; exact y3 i hi
        · rw [hr _ (by omega) (by unfold inA; omega)]; exact y4 i hi
  · exact WMt_tr (h1 4 (by decide)) (fun i _ => by rw [hC _ (by omega) (by omega) (by omega)]) (fun i _ _ => hr' i (by omega) (by omega)) c5
  · exact WHi_tr (by rw [hC _ (by omega) (by omega) (by omega)]) (fun i _ => ⟨by rw [hC _ (by omega) (by omega) (by omega)], by rw [hC _ (by omega) (by omega) (by omega)], by rw [hC _ (by omega) (by omega) (by omega)]⟩) (fun i _ => ⟨by rw [hC _ (by omega) (by omega) (by omega)], by rw [hC _ (by omega) (by omega) (by omega)]⟩) (hr' 4 (by decide) (by decide)) (fun i _ _ => hr' i (by omega) (by omega)) c6
  · exact WRu_tr (fun k _ => by rw [hC _ (by omega) (by omega) (by omega)]) (fun k _ i _ => ⟨by rw [hC _ (by omega) (by omega) (by omega)], by rw [hC _ (by omega) (by omega) (by omega)], by rw [hC _ (by omega) (by omega) (by omega)], by rw [hC _ (by omega) (by omega) (by omega)]⟩) (fun k _ i _ => by rw [hC _ (by omega) (by omega) (by omega)]) (fun i _ _ => hr' i (by omega) (by omega)) c7
  · rw [hC _ (by decide) (by decide) (by omega)]; exact p1
  · rw [h7 _ (by decide)]; exact p2
  · exact WRel_fr (fun a ha => WA_61 ha) (fun k _ _ => hC k (by omega) (by omega) (by omega)) (fun k _ _ => hJ k (by omega) (by omega)) h9 (p3 z)
  · rw [hC _ (by decide) (by decide) (by omega)]; exact t2
  · rw [h7 _ (by decide)]; exact t3
  · rw [hC _ (by decide) (by decide) (by omega), h2]; exact t4 i hi
  · rw [hC _ (by decide) (by decide) (by omega), h7 _ (by decide)]; exact g1
  · rw [hC _ (by decide) (by decide) (by omega), h7 _ (by decide)]; exact g2
def shR (f : Nat → Int32) (a s k : Nat) : Nat → Int32 := fun i => if i = 370 + a then f (70 + s) else if 380 + 24 * a ≤ i ∧ i < 380 + 24 * a + k then f (80 + 24 * s + (i - (380 + 24 * a))) else if 524 + 24 * a ≤ i ∧ i < 524 + 24 * a + k then f (224 + 24 * s + (i - (524 + 24 * a))) else if 668 + 24 * a ≤ i ∧ i < 668 + 24 * a + k then -1 else f i
theorem shR_s {f : Nat → Int32} {a s k : Nat} (ha : a < 6) (hk : k < 24) : va_up (va_up (va_up (shR f a s k) (380 + 24 * a + k) (f (80 + 24 * s + k))) (524 + 24 * a + k) (f (224 + 24 * s + k))) (668 + 24 * a + k) (-1) = shR f a s (k + 1) := by
  funext i
  by_cases z3 : i = 668 + 24 * a + k
  · rw [z3, vu_eq]; unfold shR
    rw [if_neg (by omega), if_neg (by omega), if_neg (by omega), if_pos (by omega)]
  rw [vu_ne z3]
  by_cases z2 : i = 524 + 24 * a + k
  · rw [z2, vu_eq]; unfold shR
    rw [if_neg (by omega), if_neg (by omega), if_pos (by omega), show 524 + 24 * a + k - (524 + 24 * a) = k by omega]
  rw [vu_ne z2]
  by_cases z1 : i = 380 + 24 * a + k
  · rw [z1, vu_eq]; unfold shR
    rw [if_neg (by omega), if_pos (by omega), show 380 + 24 * a + k - (380 + 24 * a) = k by omega]
  rw [vu_ne z1]
  unfold shR
  by_cases y0 : i = 370 + a
  · rw [if_pos y0, if_pos y0]
  rw [if_neg y0, if_neg y0]
  by_cases y1 : 380 + 24 * a ≤ i ∧ i < 380 + 24 * a + k
  · rw [if_pos y1, if_pos (show 380 + 24 * a ≤ i ∧ i < 380 + 24 * a + (k + 1) by omega)]
  rw [if_neg y1, if_neg (show ¬ (380 + 24 * a ≤ i ∧ i < 380 + 24 * a + (k + 1)) by omega)]
  by_cases y2 : 524 + 24 * a ≤ i ∧ i < 524 + 24 * a + k
  · rw [if_pos y2, if_pos (show 524 + 24 * a ≤ i ∧ i < 524 + 24 * a + (k + 1) by omega)]
  rw [if_neg y2, if_neg (show ¬ (524 + 24 * a ≤ i ∧ i < 524 + 24 * a + (k + 1)) by omega)]
  by_cases y3 : 668 + 24 * a ≤ i ∧ i < 668 + 24 * a + k
  · rw [if_pos y3, if_pos (show 668 + 24 * a ≤ i ∧ i < 668 + 24 * a + (k + 1) by omega)]
  rw [if_neg y3, if_neg (show ¬ (668 + 24 * a ≤ i ∧ i < 668 + 24 * a + (k + 1)) by omega)]
theorem r_shapes {X : Nat × (Nat → Int32)} {d : Nat} {I : Nat → Nat → Int32} {J : Nat → Nat → Int64} {a s : Nat} (hd : 1 ≤ d) (ha : a < 6) (hs : s < 6) : callF X d 198 [.ref 177, .int (nI a), .int (nI s)] (mk I J) = some (none, mk (va_up I 178 (shR (I 178) a s 24)) J) := by
  refine callF_at (by omega) (by decide) (Nat.le_of_ble_eq_true rfl) (fun d _ => ?_)
  show Ev X d 198 0 [.ref 177, .int (nI a), .int (nI s), .retAddr 0] [] ( mk I J) _
  simp (disch := first | omega | assumption | exact rfl) only [U_198_0, XX, QQ, WW, KK, QX, SHs, RRs, Nat.reduceAdd, Nat.reduceMul, Nat.reduceLeDiff, Nat.reduceEqDiff, List.length_cons, List.length_nil, decide_true, decide_false, Bool.true_and, Bool.and_true, Bool.false_and, Bool.and_false, false_and, and_false, Bool.false_eq_true, Bool.true_eq_false, reduceCtorEq, eq_self, if_true, if_false, true_and, and_true, not_true_eq_false, not_false_eq_true, if_pos, if_neg, z_ite_not, false_or, or_false, true_or, or_true, SWs, swk_0, swk_1]
  refine lpI (n := 24) (P := fun k => Ev X d 198 1 [.ref 177, .int (nI a), .int (nI s), .int (nI k)] [] (mk (va_up I 178 (shR (I 178) a s k)) J) (none, mk (va_up I 178 (shR (I 178) a s 24)) J)) ?_ ?_ (fun L => by
    have e : shR (I 178) a s 0 = va_up (I 178) (370 + a) (I 178 (70 + s)) := by
      funext i; unfold shR va_up
      by_cases z : i = 370 + a
      · rw [if_pos z, if_pos z]
      · rw [if_neg z, if_neg z, if_neg (by omega), if_neg (by omega), if_neg (by omega)]
    rw [e] at L; exact L)
  · rw [U_198_1]
    simp (disch := first | omega | assumption | exact rfl) only [U_198_3, XX, QQ, WW, KK, QX, SHs, RRs, Nat.reduceAdd, Nat.reduceMul, Nat.reduceLeDiff, Nat.reduceEqDiff, List.length_cons, List.length_nil, decide_true, decide_false, Bool.true_and, Bool.and_true, Bool.false_and, Bool.and_false, false_and, and_false, Bool.false_eq_true, Bool.true_eq_false, reduceCtorEq, eq_self, if_true, if_false, true_and, and_true, not_true_eq_false, not_false_eq_true, if_pos, if_neg, z_ite_not, false_or, or_false, true_or, or_true, SWs, swk_0, swk_1]
  · intro k hk ih
    rw [U_198_1]
    have e1 : shR (I 178) a s k (80 + 24 * s + k) = I 178 (80 + 24 * s + k) := by
      unfold shR; rw [if_neg (by omega), if_neg (by omega), if_neg (by omega), if_neg (by omega)]
    have e2 : shR (I 178) a s k (224 + 24 * s + k) = I 178 (224 + 24 * s + k) := by
      unfold shR; rw [if_neg (by omega), if_neg (by omega), if_neg (by omega), if_neg (by omega)]
    rw [← shR_s ha hk] at ih
    simp (disch := first | omega | assumption | exact rfl) only [U_198_2, XX, QQ, WW, KK, QX, SHs, RRs, Nat.reduceAdd, Nat.reduceMul, Nat.reduceLeDiff, Nat.reduceEqDiff, List.length_cons, List.length_nil, decide_true, decide_false, Bool.true_and, Bool.and_true, Bool.false_and, Bool.and_false, false_and, and_false, Bool.false_eq_true, Bool.true_eq_false, reduceCtorEq, eq_self, if_true, if_false, true_and, and_true, not_true_eq_false, not_false_eq_true, if_pos, if_neg, z_ite_not, false_or, or_false, true_or, or_true, SWs, swk_0, swk_1, e1, e2]
    exact ih
theorem shR_wl {f : Nat → Int32} {a s F : Nat} (hs : s < 6) (h : RSh f s F) : RWl (shR f a s 24) a F (fun _ => -1) := by
  obtain ⟨h1, h2, h3⟩ := h
  refine ⟨h1, ?_, fun i hi => ⟨?_, ?_⟩, fun i hi => ?_⟩
  · unfold shR; rw [if_pos rfl]; exact h2
  · unfold shR; rw [if_neg (by omega), if_pos (by omega), show 380 + 24 * a + i - (380 + 24 * a) = i by omega]; exact (h3 i hi).1
  · unfold shR; rw [if_neg (by omega), if_neg (by omega), if_pos (by omega), show 524 + 24 * a + i - (524 + 24 * a) = i by omega]; exact (h3 i hi).2
  · unfold shR; rw [if_neg (by omega), if_neg (by omega), if_neg (by omega), if_pos (by omega)]
theorem shR_out {f : Nat → Int32} {a s i : Nat} (h : ¬ inA a i) : shR f a s 24 i = f i := by
  unfold inA at h
  unfold shR; rw [if_neg (by omega), if_neg (by omega), if_neg (by omega), if_neg (by omega)]
theorem MW_mk {I : Nat → Nat → Int32} {J : Nat → Nat → Int64} {W : Nat} {j : Nat → Int64} {c f1 f2 f3 : Nat → Int32} : MW (mk I J) W j c f1 f2 f3 = mk (va_up (va_up (va_up (va_up I W c) (W + 1) f1) (W + 2) f2) (W + 3) f3) (va_up J W j) := rfl
/-- a raised wall, as the frozen memory has it -/
theorem c_raise {X : Nat × (Nat → Int32)} {d : Nat} {I : Nat → Nat → Int32} {J : Nat → Nat → Int64} {W F : Nat} (hd : 4 ≤ d) (hW : WA (mk I J) W) (hF : F < 2 ^ 64) (h24 : pop F ≤ 24) : ∃ I' J', callF X d 93 [.ref W, .long (lN F)] (mk I J) = some (none, mk I' J') ∧ WG (mk I' J') W F ∧ (∀ i, i < 24 → I' (W + 1) i = -1) ∧ (∀ k, k < W ∨ W + 3 < k → I' k = I k) ∧ (∀ k, k ≠ W → J' k = J k) := by
  have r := s_raise (X := X) (d := d) (M := mk I J) (by omega) hW hF h24
  have g := Wend_WG hW hF h24
  have b : ∀ i, i < 24 → m_I (Wend (mk I J) W F) (W + 1) i = -1 := fun i hi => by unfold Wend; rw [mw_I1]; exact if_pos hi
  have n : ∀ k, k < W ∨ W + 3 < k → m_I (Wend (mk I J) W F) k = I k := fun k hk => by unfold Wend; rw [mw_In hk]; rfl
  have j : ∀ k, k ≠ W → m_J (Wend (mk I J) W F) k = J k := fun k hk => by unfold Wend; rw [mw_Jn hk]; rfl
  unfold Wend at r g b n j
  rw [MW_mk] at r g b n j
  exact ⟨_, _, r, g, b, n, j⟩
theorem WB_m {n : Nat} {B : Nat → Int32} (hn : n ≤ 24) (h : ∀ i, i < 24 → B i = -1) : WB B n := ⟨fun i hi => .inl (h i (by omega)), fun i j hi hj _ z => absurd (h i (by omega)) z, fun i _ hi => h i hi⟩
theorem b_wall {X : Nat × (Nat → Int32)} {d : Nat} {I : Nat → Nat → Int32} {J : Nat → Nat → Int64} {u v : Int32} (hd : 6 ≤ d) (h : Inv I J) : Both X d 121 199 [.int u, .int v] I J := by
  obtain ⟨FS, hs⟩ := Inv_sh h
  rcases of_d u 5 6 rfl (by decide) with ⟨a, ha, rfl⟩ | ⟨o1, o2⟩
  · rcases of_d v 5 6 rfl (by decide) with ⟨s, hs6, rfl⟩ | ⟨o1, o2⟩
    · obtain ⟨hF, hJ, hR⟩ := hs s hs6
      obtain ⟨d, rfl⟩ : ∃ d', d = d' + 1 := ⟨d - 1, by omega⟩
      obtain ⟨I1, J1, c1, c2, c3, c4, c5⟩ := c_raise (X := X) (d := d) (by omega) (WA_0 (I := I) (J := J) ha) hF hR.1
      rw [Nat.add_zero] at c1 c2 c3 c4 c5
      have e178 : I1 178 = I 178 := c4 _ (by omega)
      refine ⟨nI 1, I1, J1, va_up I1 178 (shR (I1 178) a s 24), ?_, ?_, ?_⟩
      · refine callF_at (by omega) (by decide) (Nat.le_of_ble_eq_true rfl) (fun d' hd' => ?_)
        obtain rfl : d = d' := by omega
        show Ev X d 121 0 [.ref 0, .int (nI a), .int (nI s)] [] (mk I J) _
        simp (disch := first | omega | assumption | exact rfl) only [U_121_0, U_121_1, U_121_3, XX, QQ, WW, KK, QX, SHs, RRs, Nat.reduceAdd, Nat.reduceMul, Nat.reduceLeDiff, Nat.reduceEqDiff, List.length_cons, List.length_nil, decide_true, decide_false, Bool.true_and, Bool.and_true, Bool.false_and, Bool.and_false, false_and, and_false, Bool.false_eq_true, Bool.true_eq_false, reduceCtorEq, eq_self, if_true, if_false, true_and, and_true, not_true_eq_false, not_false_eq_true, if_pos, if_neg, z_ite_not, false_or, or_false, true_or, or_true, SWs, swk_0, swk_1, s_isOf, WLs, hJ, c1]
      · refine callF_at (by omega) (by decide) (Nat.le_of_ble_eq_true rfl) (fun d _ => ?_)
        show Ev X d 199 0 [.ref 177, .int (nI a), .int (nI s)] [] ( mk I1 J1) _
        simp (disch := first | omega | assumption | exact rfl) only [U_199_0, U_199_1, U_199_3, XX, QQ, WW, KK, QX, SHs, RRs, Nat.reduceAdd, Nat.reduceMul, Nat.reduceLeDiff, Nat.reduceEqDiff, List.length_cons, List.length_nil, decide_true, decide_false, Bool.true_and, Bool.and_true, Bool.false_and, Bool.and_false, false_and, and_false, Bool.false_eq_true, Bool.true_eq_false, reduceCtorEq, eq_self, if_true, if_false, true_and, and_true, not_true_eq_false, not_false_eq_true, if_pos, if_neg, z_ite_not, false_or, or_false, true_or, or_true, SWs, swk_0, swk_1, r_isWall, r_isShape, r_shapes]
      · have r2 : ∀ k, k ≠ 178 → va_up I1 178 (shR (I1 178) a s 24) k = I1 k := fun k hk => vu_ne hk
        have r1 : ∀ i, va_up I1 178 (shR (I1 178) a s 24) 178 i = shR (I 178) a s 24 i := fun i => by rw [vu_eq, e178]
        obtain ⟨s0, _⟩ := Inv_sc h
        refine Inv_setW ha h (fun k k1 k2 k3 => by rw [r2 k (by omega), c4 k (by omega)]) (fun i _ => by rw [r2 1 (by decide), c4 1 (by omega)]) ?_ (fun k k1 k2 => c5 k (by omega)) (fun i i1 i2 => by rw [r1, shR_out i2]) (by rw [r2 _ (by decide), c4 _ (by omega)]) (by rw [r2 _ (by decide), c4 _ (by omega)]) (fun k hk => by rw [r2 _ (by decide), c4 _ (by omega)]) ⟨FS s, ?_, ?_, ?_⟩
        · rw [r2 1 (by decide), c4 1 (by omega), r1, shR_out (by unfold inA; omega)]; exact s0
        · exact WG_fr c2 (fun k _ _ => r2 k (by omega)) rfl
        · rw [r2 (14 + 4 * a + 1) (by omega)]; exact WB_m hR.1 c3
        · rw [r2 (14 + 4 * a + 1) (by omega)]
          have w := shR_wl (a := a) hs6 hR
          rw [vu_eq, e178]
          exact RWl_tr ha (fun _ _ _ => rfl) (fun i hi => c3 i hi) w
    · refine Both_0 (nI 0) h ?_ ?_
      · refine callF_at (by omega) (by decide) (Nat.le_of_ble_eq_true rfl) (fun d _ => ?_)
        show Ev X d 121 0 [.ref 0, .int (nI a), .int v] [] ( mk I J) _
        simp (disch := first | omega | assumption | exact rfl) only [U_121_0, U_121_1, U_121_2, XX, QQ, WW, KK, QX, SHs, RRs, Nat.reduceAdd, Nat.reduceMul, Nat.reduceLeDiff, Nat.reduceEqDiff, List.length_cons, List.length_nil, decide_true, decide_false, Bool.true_and, Bool.and_true, Bool.false_and, Bool.and_false, false_and, and_false, Bool.false_eq_true, Bool.true_eq_false, reduceCtorEq, eq_self, if_true, if_false, true_and, and_true, not_true_eq_false, not_false_eq_true, if_pos, if_neg, z_ite_not, false_or, or_false, true_or, or_true, SWs, swk_0, swk_1, s_isOf, o1]
      · refine callF_at (by omega) (by decide) (Nat.le_of_ble_eq_true rfl) (fun d _ => ?_)
        show Ev X d 199 0 [.ref 177, .int (nI a), .int v] [] ( mk I J) _
        simp (disch := first | omega | assumption | exact rfl) only [U_199_0, U_199_1, U_199_2, XX, QQ, WW, KK, QX, SHs, RRs, Nat.reduceAdd, Nat.reduceMul, Nat.reduceLeDiff, Nat.reduceEqDiff, List.length_cons, List.length_nil, decide_true, decide_false, Bool.true_and, Bool.and_true, Bool.false_and, Bool.and_false, false_and, and_false, Bool.false_eq_true, Bool.true_eq_false, reduceCtorEq, eq_self, if_true, if_false, true_and, and_true, not_true_eq_false, not_false_eq_true, if_pos, if_neg, z_ite_not, false_or, or_false, true_or, or_true, SWs, swk_0, swk_1, r_isWall, r_isShape, o2]
  · refine Both_0 (nI 0) h ?_ ?_
    · refine callF_at (by omega) (by decide) (Nat.le_of_ble_eq_true rfl) (fun d _ => ?_)
      show Ev X d 121 0 [.ref 0, .int u, .int v] [] ( mk I J) _
      simp (disch := first | omega | assumption | exact rfl) only [U_121_0, U_121_1, U_121_2, XX, QQ, WW, KK, QX, SHs, RRs, Nat.reduceAdd, Nat.reduceMul, Nat.reduceLeDiff, Nat.reduceEqDiff, List.length_cons, List.length_nil, decide_true, decide_false, Bool.true_and, Bool.and_true, Bool.false_and, Bool.and_false, false_and, and_false, Bool.false_eq_true, Bool.true_eq_false, reduceCtorEq, eq_self, if_true, if_false, true_and, and_true, not_true_eq_false, not_false_eq_true, if_pos, if_neg, z_ite_not, false_or, or_false, true_or, or_true, SWs, swk_0, swk_1, s_isOf, o1]
    · refine callF_at (by omega) (by decide) (Nat.le_of_ble_eq_true rfl) (fun d _ => ?_)
      show Ev X d 199 0 [.ref 177, .int u, .int v] [] ( mk I J) _
      simp (disch := first | omega | assumption | exact rfl) only [U_199_0, U_199_1, U_199_2, XX, QQ, WW, KK, QX, SHs, RRs, Nat.reduceAdd, Nat.reduceMul, Nat.reduceLeDiff, Nat.reduceEqDiff, List.length_cons, List.length_nil, decide_true, decide_false, Bool.true_and, Bool.and_true, Bool.false_and, Bool.and_false, false_and, and_false, Bool.false_eq_true, Bool.true_eq_false, reduceCtorEq, eq_self, if_true, if_false, true_and, and_true, not_true_eq_false, not_false_eq_true, if_pos, if_neg, z_ite_not, false_or, or_false, true_or, or_true, SWs, swk_0, swk_1, r_isWall, o2]
/-- bricks of a wall change alone -/
theorem Inv_setB {I : Nat → Nat → Int32} {J : Nat → Nat → Int64} {a F : Nat} {B' : Nat → Int32} {g : Nat → Int32} (ha : a < 6) (h : Inv I J) (hG : WG (mk I J) (14 + 4 * a) F) (hR : RWl (I 178) a F (I (14 + 4 * a + 1))) (hB : WB B' (pop F)) (hg : ∀ i, i < 24 → g (668 + 24 * a + i) = B' i) (hg2 : ∀ i, (i < 668 + 24 * a ∨ 692 + 24 * a ≤ i) → g i = I 178 i) : Inv (va_up (va_up I (14 + 4 * a + 1) B') 178 g) J := by
  have r2 : ∀ k, k ≠ 178 → k ≠ 14 + 4 * a + 1 → va_up (va_up I (14 + 4 * a + 1) B') 178 g k = I k := fun k h1 h2 => by rw [vu_ne h1, vu_ne h2]
  have r1 : va_up (va_up I (14 + 4 * a + 1) B') 178 g (14 + 4 * a + 1) = B' := by rw [vu_ne (by omega), vu_eq]
  obtain ⟨s0, _⟩ := Inv_sc h
  refine Inv_setW ha h (fun k k1 k2 k3 => r2 k (by omega) (by omega)) (fun i _ => by rw [r2 1 (by decide) (by omega)]) ?_ (fun k k1 k2 => rfl) (fun i i1 i2 => ?_) (r2 _ (by decide) (by omega)) (r2 _ (by decide) (by omega)) (fun k hk => by rw [r2 _ (by decide) (by omega)]) ⟨F, ?_, ?_, ?_⟩
  · rw [r2 1 (by decide) (by omega), vu_eq, hg2 _ (by omega)]; exact s0
  · unfold inA at i2; rw [vu_eq, hg2 _ (by omega)]
  · exact WG_tr hG.1 rfl (by rw [r2 _ (by omega) (by omega)]) (fun i _ => by rw [r2 _ (by omega) (by omega)]) (fun i _ => by rw [r2 _ (by omega) (by omega)]) hG
  · rw [r1]; exact hB
  · rw [r1, vu_eq]
    obtain ⟨y1, y2, y3, y4⟩ := hR
    refine ⟨y1, ?_, fun i hi => ?_, fun i hi => hg i hi⟩
    · rw [hg2 _ (by omega)]; exact y2
    · rw [hg2 _ (by omega), hg2 _ (by omega)]; exact y3 i hi
theorem b_lay {X : Nat × (Nat → Int32)} {d : Nat} {I : Nat → Nat → Int32} {J : Nat → Nat → Int64} {u v w : Int32} (hd : 4 ≤ d) (h : Inv I J) : Both X d 122 202 [.int u, .int v, .int w] I J := by
  obtain ⟨FW, hw⟩ := Inv_wl h
  rcases of_d u 5 6 rfl (by decide) with ⟨a, ha, rfl⟩ | ⟨o1, o2⟩
  · obtain ⟨hG, hB, hR⟩ := hw a ha
    have h24 := hG.2.2.1
    have hc : I (14 + 4 * a) 1 = nI (pop (FW a)) := hG.2.2.2.2.1
    rcases of_e v (pop (FW a)) (by omega) with ⟨i, hi, rfl⟩ | ⟨p1, p2⟩
    · have cc := fun d hd => r_isCellOf (X := X) (d := d) (J := J) (v := nI i) hd ha hR
      have cc2 : (decide (nI 0 ≤ nI i) && decide (nI i ≤ nI (pop (FW a)) - nI 1)) = true := by
        have a1 : nI 0 ≤ nI i := nI_pos' (by omega)
        rw [q_sub (by omega)]
        have a2 : nI i ≤ nI (pop (FW a) - 1) := (nI_leI (by omega) (by omega)).mpr (by omega)
        simp [a1, a2]
      rw [cc2] at cc
      have fin : ∀ w' : Int32, (w' = -1 ∨ ∃ b, b < 24 ∧ w' = nI b) → (∀ j, j < pop (FW a) → I (14 + 4 * a + 1) j = w' → w' ≠ -1 → j = i) → Inv (va_up (va_up I (14 + 4 * a + 1) (va_up (I (14 + 4 * a + 1)) i w')) 178 (va_up (I 178) (668 + 24 * a + i) w')) J := by
        intro w' hw1 hw2
        refine Inv_setB ha h hG hR ⟨fun j hj => ?_, fun j k hj hk he hn => ?_, fun j hj hj2 => ?_⟩ (fun j hj => ?_) (fun j hj => ?_)
        · by_cases e : j = i
          · rw [e, vu_eq]; exact hw1
          · rw [vu_ne e]; exact hB.1 j hj
        · by_cases e : j = i
          · subst e
            by_cases e' : k = j
            · exact e'.symm
            · rw [vu_eq, vu_ne e'] at he
              rw [vu_eq] at hn
              exact (hw2 k hk he.symm hn).symm
          · by_cases e' : k = i
            · subst e'
              rw [vu_ne e, vu_eq] at he
              rw [vu_ne e, he] at hn
              exact hw2 j hj he hn
            · rw [vu_ne e, vu_ne e'] at he
              rw [vu_ne e] at hn
              exact hB.2.1 j k hj hk he hn
        · rw [vu_ne (by omega)]; exact hB.2.2 j hj hj2
        · by_cases e : j = i
          · subst e; rw [vu_eq, vu_eq]
          · rw [vu_ne (by omega), vu_ne e]; exact hR.2.2.2 j hj
        · rw [vu_ne (by omega)]
      by_cases hm : w = -1
      · subst hm
        refine ⟨nI 1, va_up I (14 + 4 * a + 1) (va_up (I (14 + 4 * a + 1)) i (-1)), J, va_up (va_up I (14 + 4 * a + 1) (va_up (I (14 + 4 * a + 1)) i (-1))) 178 (va_up (I 178) (668 + 24 * a + i) (-1)), ?_, ?_, fin (-1) (.inl rfl) (fun _ _ _ z => absurd rfl z)⟩
        · refine callF_at (by omega) (by decide) (Nat.le_of_ble_eq_true rfl) (fun d _ => ?_)
          show Ev X d 122 0 [.ref 0, .int (nI a), .int (nI i), .int (-1), .retAddr 0, .retAddr 0] [] ( mk I J) _
          simp (disch := first | omega | assumption | exact rfl) only [U_122_0, U_122_1, U_122_3, U_122_6, U_122_7, U_122_9, U_122_12, XX, QQ, WW, KK, QX, SHs, RRs, Nat.reduceAdd, Nat.reduceMul, Nat.reduceLeDiff, Nat.reduceEqDiff, List.length_cons, List.length_nil, decide_true, decide_false, Bool.true_and, Bool.and_true, Bool.false_and, Bool.and_false, false_and, and_false, Bool.false_eq_true, Bool.true_eq_false, reduceCtorEq, eq_self, if_true, if_false, true_and, and_true, not_true_eq_false, not_false_eq_true, if_pos, if_neg, z_ite_not, false_or, or_false, true_or, or_true, SWs, swk_0, swk_1, s_isOf, WLs, hc]
        · have hR' : RWl (va_up I (14 + 4 * a + 1) (va_up (I (14 + 4 * a + 1)) i (-1)) 178) a (FW a) (I (14 + 4 * a + 1)) := by rw [vu_ne (by omega)]; exact hR
          refine callF_at (by omega) (by decide) (Nat.le_of_ble_eq_true rfl) (fun d _ => ?_)
          show Ev X d 202 0 [.ref 177, .int (nI a), .int (nI i), .int (-1), .retAddr 0] [] ( mk (va_up I (14 + 4 * a + 1) (va_up (I (14 + 4 * a + 1)) i (-1))) J) _
          have cc := r_isCellOf (X := X) (d := d) (J := J) (v := nI i) (by omega) ha hR'
          rw [cc2] at cc
          simp (disch := first | omega | assumption | exact rfl) only [U_202_0, U_202_1, U_202_4, U_202_5, U_202_7, U_202_10, XX, QQ, WW, KK, QX, SHs, RRs, Nat.reduceAdd, Nat.reduceMul, Nat.reduceLeDiff, Nat.reduceEqDiff, List.length_cons, List.length_nil, decide_true, decide_false, Bool.true_and, Bool.and_true, Bool.false_and, Bool.and_false, false_and, and_false, Bool.false_eq_true, Bool.true_eq_false, reduceCtorEq, eq_self, if_true, if_false, true_and, and_true, not_true_eq_false, not_false_eq_true, if_pos, if_neg, z_ite_not, false_or, or_false, true_or, or_true, SWs, swk_0, swk_1, cc]
      · rcases of_d w 23 24 rfl (by decide) with ⟨b, hb, rfl⟩ | ⟨q1, q2⟩
        · have c1 := fun d hd => s_cellOf (X := X) (d := d) (b := nI b) hd hG
          have c2 := fun d hd I0 (hI0 : I0 178 = I 178) => r_placeOf (X := X) (d := d) (I := I0) (J := J) (b := nI b) hd ha (by rw [hI0]; exact hR)
          rw [k_I] at c1
          have suc : (fstI (I (14 + 4 * a + 1)) (nI b) (pop (FW a)) 0 = -1 ∨ fstI (I (14 + 4 * a + 1)) (nI b) (pop (FW a)) 0 = nI i) → (∀ j, j < pop (FW a) → I (14 + 4 * a + 1) j = nI b → j = i) → Both X d 122 202 [.int (nI a), .int (nI i), .int (nI b)] I J := by
            intro hf hu
            refine ⟨nI 1, va_up I (14 + 4 * a + 1) (va_up (I (14 + 4 * a + 1)) i (nI b)), J, va_up (va_up I (14 + 4 * a + 1) (va_up (I (14 + 4 * a + 1)) i (nI b))) 178 (va_up (I 178) (668 + 24 * a + i) (nI b)), ?_, ?_, fin (nI b) (.inr ⟨b, hb, rfl⟩) (fun j hj e _ => hu j hj e)⟩
            · refine callF_at (by omega) (by decide) (Nat.le_of_ble_eq_true rfl) (fun d _ => ?_)
              show Ev X d 122 0 [.ref 0, .int (nI a), .int (nI i), .int (nI b), .retAddr 0, .retAddr 0] [] ( mk I J) _
              have c1 := c1 d (by omega)
              rcases hf with z | z
              · rw [z] at c1
                simp (disch := first | omega | assumption | exact rfl) only [U_122_0, U_122_1, U_122_3, U_122_4, U_122_6, U_122_8, U_122_9, U_122_10, U_122_12, XX, QQ, WW, KK, QX, SHs, RRs, Nat.reduceAdd, Nat.reduceMul, Nat.reduceLeDiff, Nat.reduceEqDiff, List.length_cons, List.length_nil, decide_true, decide_false, Bool.true_and, Bool.and_true, Bool.false_and, Bool.and_false, false_and, and_false, Bool.false_eq_true, Bool.true_eq_false, reduceCtorEq, eq_self, if_true, if_false, true_and, and_true, not_true_eq_false, not_false_eq_true, if_pos, if_neg, z_ite_not, false_or, or_false, true_or, or_true, SWs, swk_0, swk_1, s_isOf, WLs, hc, c1]
              · rw [z] at c1
                simp (disch := first | omega | assumption | exact rfl) only [U_122_0, U_122_1, U_122_3, U_122_4, U_122_6, U_122_8, U_122_9, U_122_10, U_122_12, XX, QQ, WW, KK, QX, SHs, RRs, Nat.reduceAdd, Nat.reduceMul, Nat.reduceLeDiff, Nat.reduceEqDiff, List.length_cons, List.length_nil, decide_true, decide_false, Bool.true_and, Bool.and_true, Bool.false_and, Bool.and_false, false_and, and_false, Bool.false_eq_true, Bool.true_eq_false, reduceCtorEq, eq_self, if_true, if_false, true_and, and_true, not_true_eq_false, not_false_eq_true, if_pos, if_neg, z_ite_not, false_or, or_false, true_or, or_true, SWs, swk_0, swk_1, s_isOf, WLs, hc, c1]
            · have e178 : va_up I (14 + 4 * a + 1) (va_up (I (14 + 4 * a + 1)) i (nI b)) 178 = I 178 := vu_ne (by omega)
              have hR' : RWl (va_up I (14 + 4 * a + 1) (va_up (I (14 + 4 * a + 1)) i (nI b)) 178) a (FW a) (I (14 + 4 * a + 1)) := by rw [e178]; exact hR
              refine callF_at (by omega) (by decide) (Nat.le_of_ble_eq_true rfl) (fun d _ => ?_)
              show Ev X d 202 0 [.ref 177, .int (nI a), .int (nI i), .int (nI b), .retAddr 0] [] ( mk (va_up I (14 + 4 * a + 1) (va_up (I (14 + 4 * a + 1)) i (nI b))) J) _
              have cc := r_isCellOf (X := X) (d := d) (J := J) (v := nI i) (by omega) ha hR'
              rw [cc2] at cc
              have c2 := c2 d (by omega) _ e178
              rcases hf with z | z
              · rw [z] at c2
                simp (disch := first | omega | assumption | exact rfl) only [U_202_0, U_202_1, U_202_2, U_202_4, U_202_6, U_202_7, U_202_8, U_202_10, XX, QQ, WW, KK, QX, SHs, RRs, Nat.reduceAdd, Nat.reduceMul, Nat.reduceLeDiff, Nat.reduceEqDiff, List.length_cons, List.length_nil, decide_true, decide_false, Bool.true_and, Bool.and_true, Bool.false_and, Bool.and_false, false_and, and_false, Bool.false_eq_true, Bool.true_eq_false, reduceCtorEq, eq_self, if_true, if_false, true_and, and_true, not_true_eq_false, not_false_eq_true, if_pos, if_neg, z_ite_not, false_or, or_false, true_or, or_true, SWs, swk_0, swk_1, cc, c2, r_isBrick]
              · rw [z] at c2
                simp (disch := first | omega | assumption | exact rfl) only [U_202_0, U_202_1, U_202_2, U_202_4, U_202_6, U_202_7, U_202_8, U_202_10, XX, QQ, WW, KK, QX, SHs, RRs, Nat.reduceAdd, Nat.reduceMul, Nat.reduceLeDiff, Nat.reduceEqDiff, List.length_cons, List.length_nil, decide_true, decide_false, Bool.true_and, Bool.and_true, Bool.false_and, Bool.and_false, false_and, and_false, Bool.false_eq_true, Bool.true_eq_false, reduceCtorEq, eq_self, if_true, if_false, true_and, and_true, not_true_eq_false, not_false_eq_true, if_pos, if_neg, z_ite_not, false_or, or_false, true_or, or_true, SWs, swk_0, swk_1, cc, c2, r_isBrick]
          rcases fstI_spec (I (14 + 4 * a + 1)) (nI b) (pop (FW a)) 0 with ⟨e, en⟩ | ⟨j, _, hj, e1, e, _⟩
          · exact suc (.inl e) (fun j hj z => absurd z (en j (by omega) (by omega)))
          · by_cases ji : j = i
            · subst ji
              exact suc (.inr e) (fun k hk z => hB.2.1 k j hk hi (z.trans e1.symm) (by rw [z]; exact nI_ne (by omega)))
            · rw [e] at c1 c2
              refine Both_0 (nI 0) h ?_ ?_
              · refine callF_at (by omega) (by decide) (Nat.le_of_ble_eq_true rfl) (fun d _ => ?_)
                show Ev X d 122 0 [.ref 0, .int (nI a), .int (nI i), .int (nI b), .retAddr 0, .retAddr 0] [] ( mk I J) _
                have c1 := c1 d (by omega)
                simp (disch := first | omega | assumption | exact rfl) only [U_122_0, U_122_1, U_122_3, U_122_4, U_122_6, U_122_8, U_122_9, U_122_10, U_122_11, XX, QQ, WW, KK, QX, SHs, RRs, Nat.reduceAdd, Nat.reduceMul, Nat.reduceLeDiff, Nat.reduceEqDiff, List.length_cons, List.length_nil, decide_true, decide_false, Bool.true_and, Bool.and_true, Bool.false_and, Bool.and_false, false_and, and_false, Bool.false_eq_true, Bool.true_eq_false, reduceCtorEq, eq_self, if_true, if_false, true_and, and_true, not_true_eq_false, not_false_eq_true, if_pos, if_neg, z_ite_not, false_or, or_false, true_or, or_true, SWs, swk_0, swk_1, s_isOf, WLs, hc, c1]
              · refine callF_at (by omega) (by decide) (Nat.le_of_ble_eq_true rfl) (fun d _ => ?_)
                show Ev X d 202 0 [.ref 177, .int (nI a), .int (nI i), .int (nI b), .retAddr 0] [] ( mk I J) _
                have c2 := c2 d (by omega) I rfl
                have cc := cc d (by omega)
                simp (disch := first | omega | assumption | exact rfl) only [U_202_0, U_202_1, U_202_2, U_202_4, U_202_6, U_202_7, U_202_8, U_202_9, XX, QQ, WW, KK, QX, SHs, RRs, Nat.reduceAdd, Nat.reduceMul, Nat.reduceLeDiff, Nat.reduceEqDiff, List.length_cons, List.length_nil, decide_true, decide_false, Bool.true_and, Bool.and_true, Bool.false_and, Bool.and_false, false_and, and_false, Bool.false_eq_true, Bool.true_eq_false, reduceCtorEq, eq_self, if_true, if_false, true_and, and_true, not_true_eq_false, not_false_eq_true, if_pos, if_neg, z_ite_not, false_or, or_false, true_or, or_true, SWs, swk_0, swk_1, cc, c2, r_isBrick]
        · refine Both_0 (nI 0) h ?_ ?_
          · refine callF_at (by omega) (by decide) (Nat.le_of_ble_eq_true rfl) (fun d _ => ?_)
            show Ev X d 122 0 [.ref 0, .int (nI a), .int (nI i), .int w, .retAddr 0, .retAddr 0] [] ( mk I J) _
            simp (disch := first | omega | assumption | exact rfl) only [U_122_0, U_122_1, U_122_3, U_122_4, U_122_5, XX, QQ, WW, KK, QX, SHs, RRs, Nat.reduceAdd, Nat.reduceMul, Nat.reduceLeDiff, Nat.reduceEqDiff, List.length_cons, List.length_nil, decide_true, decide_false, Bool.true_and, Bool.and_true, Bool.false_and, Bool.and_false, false_and, and_false, Bool.false_eq_true, Bool.true_eq_false, reduceCtorEq, eq_self, if_true, if_false, true_and, and_true, not_true_eq_false, not_false_eq_true, if_pos, if_neg, z_ite_not, false_or, or_false, true_or, or_true, SWs, swk_0, swk_1, s_isOf, WLs, hc, hm, q1]
          · refine callF_at (by omega) (by decide) (Nat.le_of_ble_eq_true rfl) (fun d _ => ?_)
            show Ev X d 202 0 [.ref 177, .int (nI a), .int (nI i), .int w, .retAddr 0] [] ( mk I J) _
            have cc := cc d (by omega)
            simp (disch := first | omega | assumption | exact rfl) only [U_202_0, U_202_1, U_202_2, U_202_3, XX, QQ, WW, KK, QX, SHs, RRs, Nat.reduceAdd, Nat.reduceMul, Nat.reduceLeDiff, Nat.reduceEqDiff, List.length_cons, List.length_nil, decide_true, decide_false, Bool.true_and, Bool.and_true, Bool.false_and, Bool.and_false, false_and, and_false, Bool.false_eq_true, Bool.true_eq_false, reduceCtorEq, eq_self, if_true, if_false, true_and, and_true, not_true_eq_false, not_false_eq_true, if_pos, if_neg, z_ite_not, false_or, or_false, true_or, or_true, SWs, swk_0, swk_1, cc, hm, r_isBrick, q2]
    · refine Both_0 (nI 0) h ?_ ?_
      · refine callF_at (by omega) (by decide) (Nat.le_of_ble_eq_true rfl) (fun d _ => ?_)
        show Ev X d 122 0 [.ref 0, .int (nI a), .int v, .int w, .retAddr 0, .retAddr 0] [] ( mk I J) _
        simp (disch := first | omega | assumption | exact rfl) only [U_122_0, U_122_1, U_122_2, XX, QQ, WW, KK, QX, SHs, RRs, Nat.reduceAdd, Nat.reduceMul, Nat.reduceLeDiff, Nat.reduceEqDiff, List.length_cons, List.length_nil, decide_true, decide_false, Bool.true_and, Bool.and_true, Bool.false_and, Bool.and_false, false_and, and_false, Bool.false_eq_true, Bool.true_eq_false, reduceCtorEq, eq_self, if_true, if_false, true_and, and_true, not_true_eq_false, not_false_eq_true, if_pos, if_neg, z_ite_not, false_or, or_false, true_or, or_true, SWs, swk_0, swk_1, s_isOf, WLs, hc, p1]
      · refine callF_at (by omega) (by decide) (Nat.le_of_ble_eq_true rfl) (fun d _ => ?_)
        show Ev X d 202 0 [.ref 177, .int (nI a), .int v, .int w, .retAddr 0] [] ( mk I J) _
        have c := r_isCellOf (X := X) (d := d) (J := J) (v := v) (by omega) ha hR
        rw [p2] at c
        simp (disch := first | omega | assumption | exact rfl) only [U_202_0, U_202_1, U_202_2, U_202_3, XX, QQ, WW, KK, QX, SHs, RRs, Nat.reduceAdd, Nat.reduceMul, Nat.reduceLeDiff, Nat.reduceEqDiff, List.length_cons, List.length_nil, decide_true, decide_false, Bool.true_and, Bool.and_true, Bool.false_and, Bool.and_false, false_and, and_false, Bool.false_eq_true, Bool.true_eq_false, reduceCtorEq, eq_self, if_true, if_false, true_and, and_true, not_true_eq_false, not_false_eq_true, if_pos, if_neg, z_ite_not, false_or, or_false, true_or, or_true, SWs, swk_0, swk_1, c]
  · refine Both_0 (nI 0) h ?_ ?_
    · refine callF_at (by omega) (by decide) (Nat.le_of_ble_eq_true rfl) (fun d _ => ?_)
      show Ev X d 122 0 [.ref 0, .int u, .int v, .int w, .retAddr 0, .retAddr 0] [] ( mk I J) _
      simp (disch := first | omega | assumption | exact rfl) only [U_122_0, U_122_1, U_122_2, XX, QQ, WW, KK, QX, SHs, RRs, Nat.reduceAdd, Nat.reduceMul, Nat.reduceLeDiff, Nat.reduceEqDiff, List.length_cons, List.length_nil, decide_true, decide_false, Bool.true_and, Bool.and_true, Bool.false_and, Bool.and_false, false_and, and_false, Bool.false_eq_true, Bool.true_eq_false, reduceCtorEq, eq_self, if_true, if_false, true_and, and_true, not_true_eq_false, not_false_eq_true, if_pos, if_neg, z_ite_not, false_or, or_false, true_or, or_true, SWs, swk_0, swk_1, s_isOf, o1]
    · refine callF_at (by omega) (by decide) (Nat.le_of_ble_eq_true rfl) (fun d _ => ?_)
      show Ev X d 202 0 [.ref 177, .int u, .int v, .int w, .retAddr 0] [] ( mk I J) _
      simp (disch := first | omega | assumption | exact rfl) only [U_202_0, U_202_1, U_202_2, U_202_3, XX, QQ, WW, KK, QX, SHs, RRs, Nat.reduceAdd, Nat.reduceMul, Nat.reduceLeDiff, Nat.reduceEqDiff, List.length_cons, List.length_nil, decide_true, decide_false, Bool.true_and, Bool.and_true, Bool.false_and, Bool.and_false, false_and, and_false, Bool.false_eq_true, Bool.true_eq_false, reduceCtorEq, eq_self, if_true, if_false, true_and, and_true, not_true_eq_false, not_false_eq_true, if_pos, if_neg, z_ite_not, false_or, or_false, true_or, or_true, SWs, swk_0, swk_1, r_isCellOf_n, o2]
theorem b_fill {X : Nat × (Nat → Int32)} {d : Nat} {I : Nat → Nat → Int32} {J : Nat → Nat → Int64} {u v : Int32} (hd : 4 ≤ d) (h : Inv I J) : Both X d 123 203 [.int u, .int v] I J := by
  obtain ⟨FW, hw⟩ := Inv_wl h
  rcases of_d u 5 6 rfl (by decide) with ⟨a, ha, rfl⟩ | ⟨o1, o2⟩
  · obtain ⟨hG, hB, hR⟩ := hw a ha
    have h24 := hG.2.2.1
    have hc : I (14 + 4 * a) 1 = nI (pop (FW a)) := hG.2.2.2.2.1
    have h370 := hR.2.1
    by_cases n0 : pop (FW a) = 0
    · rw [n0] at hc h370
      refine Both_0 (nI 0) h ?_ ?_
      · refine callF_at (by omega) (by decide) (Nat.le_of_ble_eq_true rfl) (fun d _ => ?_)
        show Ev X d 123 0 [.ref 0, .int (nI a), .int v, .retAddr 0, .retAddr 0] [] ( mk I J) _
        simp (disch := first | omega | assumption | exact rfl) only [U_123_0, U_123_2, U_123_5, XX, QQ, WW, KK, QX, SHs, RRs, Nat.reduceAdd, Nat.reduceMul, Nat.reduceLeDiff, Nat.reduceEqDiff, List.length_cons, List.length_nil, decide_true, decide_false, Bool.true_and, Bool.and_true, Bool.false_and, Bool.and_false, false_and, and_false, Bool.false_eq_true, Bool.true_eq_false, reduceCtorEq, eq_self, if_true, if_false, true_and, and_true, not_true_eq_false, not_false_eq_true, if_pos, if_neg, z_ite_not, false_or, or_false, true_or, or_true, SWs, swk_0, swk_1, s_isOf, WLs, hc]
      · refine callF_at (by omega) (by decide) (Nat.le_of_ble_eq_true rfl) (fun d _ => ?_)
        show Ev X d 203 0 [.ref 177, .int (nI a), .int v, .retAddr 0] [] ( mk I J) _
        simp (disch := first | omega | assumption | exact rfl) only [U_203_0, U_203_1, U_203_4, XX, QQ, WW, KK, QX, SHs, RRs, Nat.reduceAdd, Nat.reduceMul, Nat.reduceLeDiff, Nat.reduceEqDiff, List.length_cons, List.length_nil, decide_true, decide_false, Bool.true_and, Bool.and_true, Bool.false_and, Bool.and_false, false_and, and_false, Bool.false_eq_true, Bool.true_eq_false, reduceCtorEq, eq_self, if_true, if_false, true_and, and_true, not_true_eq_false, not_false_eq_true, if_pos, if_neg, z_ite_not, false_or, or_false, true_or, or_true, SWs, swk_0, swk_1, r_isWall, h370]
    · by_cases hv : v < 0
      · have nb : (decide (nI 0 ≤ v) && decide (v ≤ nI 23)) = false := by
          have : ¬ nI 0 ≤ v := (fa_of_lt hv).2.1
          simp [this]
        refine Both_0 (nI 0) h ?_ ?_
        · refine callF_at (by omega) (by decide) (Nat.le_of_ble_eq_true rfl) (fun d _ => ?_)
          show Ev X d 123 0 [.ref 0, .int (nI a), .int v, .retAddr 0, .retAddr 0] [] ( mk I J) _
          simp (disch := first | omega | assumption | exact rfl) only [U_123_0, U_123_2, U_123_3, U_123_5, XX, QQ, WW, KK, QX, SHs, RRs, Nat.reduceAdd, Nat.reduceMul, Nat.reduceLeDiff, Nat.reduceEqDiff, List.length_cons, List.length_nil, decide_true, decide_false, Bool.true_and, Bool.and_true, Bool.false_and, Bool.and_false, false_and, and_false, Bool.false_eq_true, Bool.true_eq_false, reduceCtorEq, eq_self, if_true, if_false, true_and, and_true, not_true_eq_false, not_false_eq_true, if_pos, if_neg, z_ite_not, false_or, or_false, true_or, or_true, SWs, swk_0, swk_1, s_isOf, WLs, hc, hv]
        · refine callF_at (by omega) (by decide) (Nat.le_of_ble_eq_true rfl) (fun d _ => ?_)
          show Ev X d 203 0 [.ref 177, .int (nI a), .int v, .retAddr 0] [] ( mk I J) _
          simp (disch := first | omega | assumption | exact rfl) only [U_203_0, U_203_1, U_203_2, U_203_4, XX, QQ, WW, KK, QX, SHs, RRs, Nat.reduceAdd, Nat.reduceMul, Nat.reduceLeDiff, Nat.reduceEqDiff, List.length_cons, List.length_nil, decide_true, decide_false, Bool.true_and, Bool.and_true, Bool.false_and, Bool.and_false, false_and, and_false, Bool.false_eq_true, Bool.true_eq_false, reduceCtorEq, eq_self, if_true, if_false, true_and, and_true, not_true_eq_false, not_false_eq_true, if_pos, if_neg, z_ite_not, false_or, or_false, true_or, or_true, SWs, swk_0, swk_1, r_isWall, r_isBrick, h370, nb]
      · obtain ⟨f, hf, rfl⟩ := nI_of hv
        by_cases hl : f + pop (FW a) ≤ 24
        · obtain ⟨n, hn⟩ : ∃ n, n = pop (FW a) := ⟨_, rfl⟩
          rw [← hn] at hc h370 hl n0 h24
          refine ⟨nI 1, va_up I (14 + 4 * a + 1) (fun i => if i < n then nI (f + i) else I (14 + 4 * a + 1) i), J, va_up (va_up I (14 + 4 * a + 1) (fun i => if i < n then nI (f + i) else I (14 + 4 * a + 1) i)) 178 (fun i => if 668 + 24 * a ≤ i ∧ i < 668 + 24 * a + n then nI (f + (i - (668 + 24 * a))) else I 178 i), ?_, ?_, ?_⟩
          · refine callF_at (by omega) (by decide) (Nat.le_of_ble_eq_true rfl) (fun d _ => ?_)
            show Ev X d 123 0 [.ref 0, .int (nI a), .int (nI f), .retAddr 0, .retAddr 0] [] ( mk I J) _
            simp (disch := first | omega | assumption | exact rfl) only [U_123_0, U_123_2, U_123_3, U_123_4, U_123_6, XX, QQ, WW, KK, QX, SHs, RRs, Nat.reduceAdd, Nat.reduceMul, Nat.reduceLeDiff, Nat.reduceEqDiff, List.length_cons, List.length_nil, decide_true, decide_false, Bool.true_and, Bool.and_true, Bool.false_and, Bool.and_false, false_and, and_false, Bool.false_eq_true, Bool.true_eq_false, reduceCtorEq, eq_self, if_true, if_false, true_and, and_true, not_true_eq_false, not_false_eq_true, if_pos, if_neg, z_ite_not, false_or, or_false, true_or, or_true, SWs, swk_0, swk_1, s_isOf, WLs, hc]
            refine lpI (n := n) (P := fun k => Ev X d 123 7 [.ref 0, .int (nI a), .int (nI f), .ref (14 + 4 * a), .int (nI k)] [] (mk (va_up I (14 + 4 * a + 1) (fun i => if i < k then nI (f + i) else I (14 + 4 * a + 1) i)) J) (some (.int (nI 1)), mk (va_up I (14 + 4 * a + 1) (fun i => if i < n then nI (f + i) else I (14 + 4 * a + 1) i)) J)) ?_ ?_ (fun L => by
              have e : (fun i => if i < 0 then nI (f + i) else I (14 + 4 * a + 1) i) = I (14 + 4 * a + 1) := by funext i; rw [if_neg (by omega)]
              rw [e, vu_id] at L; exact L)
            · rw [U_123_7]
              simp (disch := first | omega | assumption | exact rfl) only [U_123_9, XX, QQ, WW, KK, QX, SHs, RRs, Nat.reduceAdd, Nat.reduceMul, Nat.reduceLeDiff, Nat.reduceEqDiff, List.length_cons, List.length_nil, decide_true, decide_false, Bool.true_and, Bool.and_true, Bool.false_and, Bool.and_false, false_and, and_false, Bool.false_eq_true, Bool.true_eq_false, reduceCtorEq, eq_self, if_true, if_false, true_and, and_true, not_true_eq_false, not_false_eq_true, if_pos, if_neg, z_ite_not, false_or, or_false, true_or, or_true, SWs, swk_0, swk_1, WLs, hc]
            · intro k hk ih
              rw [U_123_7]
              have e : va_up (fun i => if i < k then nI (f + i) else I (14 + 4 * a + 1) i) k (nI (f + k)) = fun i => if i < k + 1 then nI (f + i) else I (14 + 4 * a + 1) i := by
                funext i; unfold va_up
                by_cases z : i = k
                · rw [if_pos z, if_pos (by omega), z]
                · rw [if_neg z]
                  show (if i < k then nI (f + i) else I (14 + 4 * a + 1) i) = _
                  by_cases z2 : i < k
                  · rw [if_pos z2, if_pos (by omega)]
                  · rw [if_neg z2, if_neg (by omega)]
              rw [← e] at ih
              simp (disch := first | omega | assumption | exact rfl) only [U_123_8, XX, QQ, WW, KK, QX, SHs, RRs, Nat.reduceAdd, Nat.reduceMul, Nat.reduceLeDiff, Nat.reduceEqDiff, List.length_cons, List.length_nil, decide_true, decide_false, Bool.true_and, Bool.and_true, Bool.false_and, Bool.and_false, false_and, and_false, Bool.false_eq_true, Bool.true_eq_false, reduceCtorEq, eq_self, if_true, if_false, true_and, and_true, not_true_eq_false, not_false_eq_true, if_pos, if_neg, z_ite_not, false_or, or_false, true_or, or_true, SWs, swk_0, swk_1, WLs, hc]
              exact ih
          · refine callF_at (by omega) (by decide) (Nat.le_of_ble_eq_true rfl) (fun d _ => ?_)
            show Ev X d 203 0 [.ref 177, .int (nI a), .int (nI f), .retAddr 0] [] ( mk (va_up I (14 + 4 * a + 1) (fun i => if i < n then nI (f + i) else I (14 + 4 * a + 1) i)) J) _
            simp (disch := first | omega | assumption | exact rfl) only [U_203_0, U_203_1, U_203_2, U_203_3, U_203_5, XX, QQ, WW, KK, QX, SHs, RRs, Nat.reduceAdd, Nat.reduceMul, Nat.reduceLeDiff, Nat.reduceEqDiff, List.length_cons, List.length_nil, decide_true, decide_false, Bool.true_and, Bool.and_true, Bool.false_and, Bool.and_false, false_and, and_false, Bool.false_eq_true, Bool.true_eq_false, reduceCtorEq, eq_self, if_true, if_false, true_and, and_true, not_true_eq_false, not_false_eq_true, if_pos, if_neg, z_ite_not, false_or, or_false, true_or, or_true, SWs, swk_0, swk_1, r_isWall, r_isBrick, h370]
            obtain ⟨I1, hI1⟩ : ∃ I1, I1 = va_up I (14 + 4 * a + 1) (fun i => if i < n then nI (f + i) else I (14 + 4 * a + 1) i) := ⟨_, rfl⟩
            have e178 : I1 178 = I 178 := by rw [hI1, vu_ne (by omega)]
            rw [← hI1]
            refine lpI (n := n) (P := fun k => Ev X d 203 6 [.ref 177, .int (nI a), .int (nI f), .int (nI k)] [] (mk (va_up I1 178 (fun i => if 668 + 24 * a ≤ i ∧ i < 668 + 24 * a + k then nI (f + (i - (668 + 24 * a))) else I 178 i)) J) (some (.int (nI 1)), mk (va_up I1 178 (fun i => if 668 + 24 * a ≤ i ∧ i < 668 + 24 * a + n then nI (f + (i - (668 + 24 * a))) else I 178 i)) J)) ?_ ?_ (fun L => by
              have e : (fun i => if 668 + 24 * a ≤ i ∧ i < 668 + 24 * a + 0 then nI (f + (i - (668 + 24 * a))) else I 178 i) = I1 178 := by funext i; rw [if_neg (by omega), e178]
              rw [e, vu_id] at L; exact L)
            · rw [U_203_6]
              have e3 : ¬ (668 + 24 * a ≤ 370 + a ∧ 370 + a < 668 + 24 * a + n) := by omega
              simp (disch := first | omega | assumption | exact rfl) only [U_203_8, XX, QQ, WW, KK, QX, SHs, RRs, Nat.reduceAdd, Nat.reduceMul, Nat.reduceLeDiff, Nat.reduceEqDiff, List.length_cons, List.length_nil, decide_true, decide_false, Bool.true_and, Bool.and_true, Bool.false_and, Bool.and_false, false_and, and_false, Bool.false_eq_true, Bool.true_eq_false, reduceCtorEq, eq_self, if_true, if_false, true_and, and_true, not_true_eq_false, not_false_eq_true, if_pos, if_neg, z_ite_not, false_or, or_false, true_or, or_true, SWs, swk_0, swk_1, h370, e3]
            · intro k hk ih
              rw [U_203_6]
              have e3 : ¬ (668 + 24 * a ≤ 370 + a ∧ 370 + a < 668 + 24 * a + k) := by omega
              have e : va_up (fun i => if 668 + 24 * a ≤ i ∧ i < 668 + 24 * a + k then nI (f + (i - (668 + 24 * a))) else I 178 i) (668 + 24 * a + k) (nI (f + k)) = fun i => if 668 + 24 * a ≤ i ∧ i < 668 + 24 * a + (k + 1) then nI (f + (i - (668 + 24 * a))) else I 178 i := by
                funext i; unfold va_up
                by_cases z : i = 668 + 24 * a + k
                · rw [if_pos z, if_pos (by omega), z, show 668 + 24 * a + k - (668 + 24 * a) = k by omega]
                · rw [if_neg z]
                  show (if 668 + 24 * a ≤ i ∧ i < 668 + 24 * a + k then nI (f + (i - (668 + 24 * a))) else I 178 i) = _
                  by_cases z2 : 668 + 24 * a ≤ i ∧ i < 668 + 24 * a + k
                  · rw [if_pos z2, if_pos (by omega)]
                  · rw [if_neg z2, if_neg (by omega)]
              rw [← e] at ih
              simp (disch := first | omega | assumption | exact rfl) only [U_203_7, XX, QQ, WW, KK, QX, SHs, RRs, Nat.reduceAdd, Nat.reduceMul, Nat.reduceLeDiff, Nat.reduceEqDiff, List.length_cons, List.length_nil, decide_true, decide_false, Bool.true_and, Bool.and_true, Bool.false_and, Bool.and_false, false_and, and_false, Bool.false_eq_true, Bool.true_eq_false, reduceCtorEq, eq_self, if_true, if_false, true_and, and_true, not_true_eq_false, not_false_eq_true, if_pos, if_neg, z_ite_not, false_or, or_false, true_or, or_true, SWs, swk_0, swk_1, h370, e3]
              exact ih
          · refine Inv_setB ha h hG hR ⟨fun j hj => ?_, fun j k hj hk he hn' => ?_, fun j hj hj2 => ?_⟩ (fun j hj => ?_) (fun j hj => ?_)
            · simp only [if_pos (show j < n by omega)]; exact .inr ⟨f + j, by omega, rfl⟩
            · simp only [if_pos (show j < n by omega), if_pos (show k < n by omega)] at he
              have := nI_inj (by omega) (by omega) he
              omega
            · simp only [if_neg (show ¬ j < n by omega)]; exact hB.2.2 j hj hj2
            · by_cases z : j < n
              · simp only [if_pos z]; rw [if_pos (by omega), show 668 + 24 * a + j - (668 + 24 * a) = j by omega]
              · simp only [if_neg z]; rw [if_neg (by omega)]; exact hR.2.2.2 j hj
            · exact if_neg (by omega)
        · refine Both_0 (nI 0) h ?_ ?_
          · refine callF_at (by omega) (by decide) (Nat.le_of_ble_eq_true rfl) (fun d _ => ?_)
            show Ev X d 123 0 [.ref 0, .int (nI a), .int (nI f), .retAddr 0, .retAddr 0] [] ( mk I J) _
            simp (disch := first | omega | assumption | exact rfl) only [U_123_0, U_123_2, U_123_3, U_123_4, U_123_5, XX, QQ, WW, KK, QX, SHs, RRs, Nat.reduceAdd, Nat.reduceMul, Nat.reduceLeDiff, Nat.reduceEqDiff, List.length_cons, List.length_nil, decide_true, decide_false, Bool.true_and, Bool.and_true, Bool.false_and, Bool.and_false, false_and, and_false, Bool.false_eq_true, Bool.true_eq_false, reduceCtorEq, eq_self, if_true, if_false, true_and, and_true, not_true_eq_false, not_false_eq_true, if_pos, if_neg, z_ite_not, false_or, or_false, true_or, or_true, SWs, swk_0, swk_1, s_isOf, WLs, hc]
          · refine callF_at (by omega) (by decide) (Nat.le_of_ble_eq_true rfl) (fun d _ => ?_)
            show Ev X d 203 0 [.ref 177, .int (nI a), .int (nI f), .retAddr 0] [] ( mk I J) _
            by_cases z : f ≤ 23
            · simp (disch := first | omega | assumption | exact rfl) only [U_203_0, U_203_1, U_203_2, U_203_3, U_203_4, XX, QQ, WW, KK, QX, SHs, RRs, Nat.reduceAdd, Nat.reduceMul, Nat.reduceLeDiff, Nat.reduceEqDiff, List.length_cons, List.length_nil, decide_true, decide_false, Bool.true_and, Bool.and_true, Bool.false_and, Bool.and_false, false_and, and_false, Bool.false_eq_true, Bool.true_eq_false, reduceCtorEq, eq_self, if_true, if_false, true_and, and_true, not_true_eq_false, not_false_eq_true, if_pos, if_neg, z_ite_not, false_or, or_false, true_or, or_true, SWs, swk_0, swk_1, r_isWall, r_isBrick, h370]
            · simp (disch := first | omega | assumption | exact rfl) only [U_203_0, U_203_1, U_203_2, U_203_4, XX, QQ, WW, KK, QX, SHs, RRs, Nat.reduceAdd, Nat.reduceMul, Nat.reduceLeDiff, Nat.reduceEqDiff, List.length_cons, List.length_nil, decide_true, decide_false, Bool.true_and, Bool.and_true, Bool.false_and, Bool.and_false, false_and, and_false, Bool.false_eq_true, Bool.true_eq_false, reduceCtorEq, eq_self, if_true, if_false, true_and, and_true, not_true_eq_false, not_false_eq_true, if_pos, if_neg, z_ite_not, false_or, or_false, true_or, or_true, SWs, swk_0, swk_1, r_isWall, r_isBrick, h370]
  · refine Both_0 (nI 0) h ?_ ?_
    · refine callF_at (by omega) (by decide) (Nat.le_of_ble_eq_true rfl) (fun d _ => ?_)
      show Ev X d 123 0 [.ref 0, .int u, .int v, .retAddr 0, .retAddr 0] [] ( mk I J) _
      simp (disch := first | omega | assumption | exact rfl) only [U_123_0, U_123_1, XX, QQ, WW, KK, QX, SHs, RRs, Nat.reduceAdd, Nat.reduceMul, Nat.reduceLeDiff, Nat.reduceEqDiff, List.length_cons, List.length_nil, decide_true, decide_false, Bool.true_and, Bool.and_true, Bool.false_and, Bool.and_false, false_and, and_false, Bool.false_eq_true, Bool.true_eq_false, reduceCtorEq, eq_self, if_true, if_false, true_and, and_true, not_true_eq_false, not_false_eq_true, if_pos, if_neg, z_ite_not, false_or, or_false, true_or, or_true, SWs, swk_0, swk_1, s_isOf, o1]
    · refine callF_at (by omega) (by decide) (Nat.le_of_ble_eq_true rfl) (fun d _ => ?_)
      show Ev X d 203 0 [.ref 177, .int u, .int v, .retAddr 0] [] ( mk I J) _
      simp (disch := first | omega | assumption | exact rfl) only [U_203_0, U_203_4, XX, QQ, WW, KK, QX, SHs, RRs, Nat.reduceAdd, Nat.reduceMul, Nat.reduceLeDiff, Nat.reduceEqDiff, List.length_cons, List.length_nil, decide_true, decide_false, Bool.true_and, Bool.and_true, Bool.false_and, Bool.and_false, false_and, and_false, Bool.false_eq_true, Bool.true_eq_false, reduceCtorEq, eq_self, if_true, if_false, true_and, and_true, not_true_eq_false, not_false_eq_true, if_pos, if_neg, z_ite_not, false_or, or_false, true_or, or_true, SWs, swk_0, swk_1, r_isWall, o2]
